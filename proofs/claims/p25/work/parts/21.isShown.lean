def fl_L_isShown_57 (x1 : Int32) (F : q_Fl) (B : q_Bd) (K : q_Bk) (x_1 : Int32 × q_Pl) : Nat → Int32 → q_Pl → q_IA → Option (Int32 × q_Pl × q_IA)
  | 0, _, _, _ => none
  | nn + 1, i11_57, N_57, A_q_6_57 => (if (nI (if (0 : Int32) < x_1.1 then x_1.1 else 0).toNatClampNeg) ≤ i11_57 then some (i11_57, N_57, A_q_6_57) else ((f_X5_step F B K N_57 x1 i11_57).bind fun x_57002 => (if q_ix i11_57 (if (0 : Int32) < x_1.1 then x_1.1 else 0).toNatClampNeg = true then fl_L_isShown_57 x1 F B K x_1 nn (i11_57 + 1) x_57002.2 (upd A_q_6_57 i11_57.toNatClampNeg x_57002.1) else none)))
def fl_L_isShown_86 (x2 : Int32) (B : q_Bd) : Nat → Int32 → q_IA → Option (Int32 × q_IA)
  | 0, _, _ => none
  | nn + 1, i11_86, A_q_8_86 => (if x2 ≤ i11_86 then some (i11_86, A_q_8_86) else ((f_X5_column B i11_86 0).bind fun x_86002 => (if q_ix i11_86 x2.toNatClampNeg = true then fl_L_isShown_86 x2 B nn (i11_86 + 1) (upd A_q_8_86 i11_86.toNatClampNeg x_86002) else none)))
def fl_L_isShown_113 (x1 : Int32) (F : q_Fl) (B : q_Bd) (K : q_Bk) (x_4 : Int32) : Nat → Int32 → q_Pl → q_IA → Option (Int32 × q_Pl × q_IA)
  | 0, _, _, _ => none
  | nn + 1, i11_113, N_113, A_q_10_113 => (if x_4 ≤ i11_113 then some (i11_113, N_113, A_q_10_113) else (if i11_113 = x1 then (if q_ix i11_113 x_4.toNatClampNeg = true then fl_L_isShown_113 x1 F B K x_4 nn (i11_113 + 1) N_113 (upd A_q_10_113 i11_113.toNatClampNeg 1) else none) else ((f_X5_ofLine F B K N_113 i11_113 5).bind fun x_113004 => (if x_113004.1 = 1 then (if q_ix i11_113 x_4.toNatClampNeg = true then fl_L_isShown_113 x1 F B K x_4 nn (i11_113 + 1) x_113004.2 (upd A_q_10_113 i11_113.toNatClampNeg 1) else none) else (if q_ix i11_113 x_4.toNatClampNeg = true then fl_L_isShown_113 x1 F B K x_4 nn (i11_113 + 1) x_113004.2 (upd A_q_10_113 i11_113.toNatClampNeg 0) else none)))))
def fl_L_isShown_285 (x2 : Int32) (x_1 : Int32 × q_Pl) (z_11 : Int32 × q_Pl × q_IA) (z_12 : Int32 × q_IA) (x_14 : Int32 × q_Fl × q_Bd × q_Pl) (i11_244 : Int32) (i12_244 : Int32) (N_244 : q_Pl) : Nat → Int32 → Option ((Int32 × q_Fl × q_Bd × q_Pl) ⊕ (Int32))
  | 0, _ => none
  | nn + 1, i13_285 => (if x2 ≤ i13_285 then some (.inr i13_285) else (if i12_244 = (x_1.1 - 1) then (if (((i11_244 ||| (z_11.2.2 i12_244.toNatClampNeg)) >>> (i13_285 &&& 31)) &&& 1) = 0 then ((f_X5_column x_14.2.2.1 i13_285 0).bind fun x_285004 => (if q_ix i13_285 x2.toNatClampNeg = true then (if x_285004 = (z_12.2 i13_285.toNatClampNeg) then fl_L_isShown_285 x2 x_1 z_11 z_12 x_14 i11_244 i12_244 N_244 nn (i13_285 + 1) else some (.inl (0, x_14.2.1, x_14.2.2.1, N_244))) else none)) else fl_L_isShown_285 x2 x_1 z_11 z_12 x_14 i11_244 i12_244 N_244 nn (i13_285 + 1)) else some (.inr i13_285)))
def fl_L_isShown_353 (x2 : Int32) (z_11 : Int32 × q_Pl × q_IA) (z_12 : Int32 × q_IA) (x_14 : Int32 × q_Fl × q_Bd × q_Pl) (i11_244 : Int32) (i12_244 : Int32) : Nat → Int32 → q_IA → Option (Int32 × q_IA)
  | 0, _, _ => none
  | nn + 1, i14_353, A_q_244009_353 => (if x2 ≤ i14_353 then some (i14_353, A_q_244009_353) else (if (((i11_244 ||| (z_11.2.2 i12_244.toNatClampNeg)) >>> (i14_353 &&& 31)) &&& 1) = 1 then ((f_X5_column x_14.2.2.1 i14_353 0).bind fun x_353004 => (if q_ix i14_353 x2.toNatClampNeg = true then fl_L_isShown_353 x2 z_11 z_12 x_14 i11_244 i12_244 nn (i14_353 + 1) (upd A_q_244009_353 i14_353.toNatClampNeg x_353004) else none)) else (if q_ix i14_353 x2.toNatClampNeg = true then fl_L_isShown_353 x2 z_11 z_12 x_14 i11_244 i12_244 nn (i14_353 + 1) (upd A_q_244009_353 i14_353.toNatClampNeg (z_12.2 i14_353.toNatClampNeg)) else none)))
def fl_L_isShown_244 (x2 : Int32) (K : q_Bk) (I : q_Wi) (T : q_Rt) (nt : Nat) (ft : q_IA) (x_1 : Int32 × q_Pl) (x_4 : Int32) (z_11 : Int32 × q_Pl × q_IA) (z_12 : Int32 × q_IA) (z_13 : Int32 × q_Pl × q_IA) (x_14 : Int32 × q_Fl × q_Bd × q_Pl) : Nat → Int32 → Int32 → q_Pl → Option ((Int32 × q_Fl × q_Bd × q_Pl) ⊕ (Int32 × Int32 × q_Pl))
  | 0, _, _, _ => none
  | nn + 1, i11_244, i12_244, N_244 => (if x_1.1 ≤ i12_244 then some (.inr (i11_244, i12_244, N_244)) else (if q_ix i12_244 (if (0 : Int32) < x_1.1 then x_1.1 else 0).toNatClampNeg = true then (if (z_11.2.2 i12_244.toNatClampNeg) ≤ 0 then some (.inl (0, x_14.2.1, x_14.2.2.1, N_244)) else (if ((z_11.2.2 i12_244.toNatClampNeg) &&& i11_244) = 0 then ((fl_L_isShown_285 x2 x_1 z_11 z_12 x_14 i11_244 i12_244 N_244 1000 0).bind fun z_244005 => Sum.elim (fun r_ => some (.inl r_)) (fun y_244006 => (if i12_244 = (x_1.1 - 1) then fl_L_isShown_244 x2 K I T nt ft x_1 x_4 z_11 z_12 z_13 x_14 nn (i11_244 ||| (z_11.2.2 i12_244.toNatClampNeg)) (i12_244 + 1) N_244 else (if q_ix x2 65 = true then ((fl_L_isShown_353 x2 z_11 z_12 x_14 i11_244 i12_244 1000 0 (fun _ => 0)).bind fun z_244010 => ((f_L_isRight x_14.2.1 x_14.2.2.1 K N_244 I T x2.toNatClampNeg z_244010.2 x_4.toNatClampNeg z_13.2.2 nt ft).bind fun x_244011 => (if x_244011.1 = 0 then some (.inl (0, x_14.2.1, x_14.2.2.1, x_244011.2)) else fl_L_isShown_244 x2 K I T nt ft x_1 x_4 z_11 z_12 z_13 x_14 nn (i11_244 ||| (z_11.2.2 i12_244.toNatClampNeg)) (i12_244 + 1) x_244011.2))) else none))) z_244005) else some (.inl (0, x_14.2.1, x_14.2.2.1, N_244)))) else none))
def f_L_isShown (F : q_Fl) (B : q_Bd) (K : q_Bk) (N : q_Pl) (I : q_Wi) (T : q_Rt) (nt : Nat) (ft : q_IA) (x1 : Int32) (x2 : Int32) : Option (Int32 × q_Fl × q_Bd × q_Pl) := ((f_X5_ofLine F B K N x1 6).bind fun x_1 => ((f_X5_ofLine F B K x_1.2 x1 7).bind fun x_2 => ((f_X5_sign F B K I T 7).bind fun x_3 => ((f_X5_sign F B K I T 4).bind fun x_4 => (if q_ix (if (0 : Int32) < x_1.1 then x_1.1 else 0) 65 = true then (if q_ix x2 65 = true then (if q_ix x_4 65 = true then ((fl_L_isShown_57 x1 F B K x_1 1000 0 x_2.2 (fun _ => 0)).bind fun z_11 => ((fl_L_isShown_86 x2 B 1000 0 (fun _ => 0)).bind fun z_12 => ((fl_L_isShown_113 x1 F B K x_4 1000 0 z_11.2.1 (fun _ => 0)).bind fun z_13 => ((f_X5_show F B K z_13.2.1 x1).bind fun x_14 => (if x_14.1 = x_1.1 then (if 0 ≤ x_1.1 then ((f_X5_sign x_14.2.1 x_14.2.2.1 K I T 7).bind fun x_17 => (if x_17 = (x_3 + x_2.1) then ((f_X5_ofLine x_14.2.1 x_14.2.2.1 K x_14.2.2.2 x1 3).bind fun x_19 => (if x_19.1 = 0 then ((f_X5_ofLine x_14.2.1 x_14.2.2.1 K x_19.2 x1 5).bind fun x_25 => (if x_25.1 = 1 then ((f_X5_ofLine x_14.2.1 x_14.2.2.1 K x_25.2 x1 6).bind fun x_27 => (if x_27.1 = 0 then ((fl_L_isShown_244 x2 K I T nt ft x_1 x_4 z_11 z_12 z_13 x_14 10 0 0 x_27.2).bind fun z_29 => Sum.elim (fun r_ => some r_) (fun y_30 => some (1, x_14.2.1, x_14.2.2.1, y_30.2.2)) z_29) else some (0, x_14.2.1, x_14.2.2.1, x_27.2))) else some (0, x_14.2.1, x_14.2.2.1, x_25.2))) else ((f_X5_ofLine x_14.2.1 x_14.2.2.1 K x_19.2 x1 6).bind fun x_21 => (if x_21.1 = 0 then ((fl_L_isShown_244 x2 K I T nt ft x_1 x_4 z_11 z_12 z_13 x_14 10 0 0 x_21.2).bind fun z_23 => Sum.elim (fun r_ => some r_) (fun y_24 => some (1, x_14.2.1, x_14.2.2.1, y_24.2.2)) z_23) else some (0, x_14.2.1, x_14.2.2.1, x_21.2))))) else some (0, x_14.2.1, x_14.2.2.1, x_14.2.2.2))) else ((f_X5_sign x_14.2.1 x_14.2.2.1 K I T 7).bind fun x_31 => (if x_31 = x_3 then (if x_2.1 = (-1) then some (1, x_14.2.1, x_14.2.2.1, x_14.2.2.2) else some (0, x_14.2.1, x_14.2.2.1, x_14.2.2.2)) else some (0, x_14.2.1, x_14.2.2.1, x_14.2.2.2)))) else some (0, x_14.2.1, x_14.2.2.1, x_14.2.2.2)))))) else none) else none) else none)))))
set_option maxHeartbeats 8000000 in
set_option maxRecDepth 100000 in
theorem c_L_isShown (l : Launch) (dC : Nat → ClassId) (dI : Nat → Nat → Nat) (cI cJ cZ : ClassId) (a : Nat → Nat) (adt : Nat) (sz : Nat) (F : q_Fl) (B : q_Bd) (K : q_Bk) (N : q_Pl) (I : q_Wi) (T : q_Rt) (nt : Nat) (ft : q_IA) (x1 : Int32) (x2 : Int32) (r0 : Int32 × q_Fl × q_Bd × q_Pl) (hf : f_L_isShown F B K N I T nt ft x1 x2 = some r0) : Met l yL_isShown wsM_isShown ({ frames := 7, cells := 193, slots := 7412, locals := 161 } : Room) (va_Pc [.ref (a 0), .int x1, .int x2, .ref adt] (q_W (dC, dI) vwCl (wSg a cI cJ F B K N I T ++ [(adt, .inl (cI, nt, .inl ft))]) (q_ty3 cI cJ cZ) sz)) (va_Qi (S := Unit) (fun r_ _ => r_ = r0.1) (fun _ => q_E (dC, dI) vwCl (wSg a cI cJ r0.2.1 r0.2.2.1 K r0.2.2.2 I T ++ [(adt, .inl (cI, nt, .inl ft))]) (q_ty3 cI cJ cZ) (va_A (wSg a cI cJ F B K N I T ++ [(adt, .inl (cI, nt, .inl ft))]) sz)) (va_A (wSg a cI cJ F B K N I T ++ [(adt, .inl (cI, nt, .inl ft))]) sz)) 193 7412 (va_A (wSg a cI cJ F B K N I T ++ [(adt, .inl (cI, nt, .inl ft))]) sz) := by
  refine Met.ofW (cc := cL_isShown) (maxL := 15) (ret := (some .boolean)) (by decide) rfl ?_
  intro p e s m args below meth c s₁ BB hml hv
  obtain ⟨rfl, hsz, hP, hK, hn, hD0⟩ := hv
  have hx := BB.exec
  have hb := BB.bytes
  have hr := BB.returns
  have hts := atoms_spec (ws := wsM_isShown) BB.pre
  have hown : s.vm.findClass RL = some m.cls := findClass_of_methodNamed BB.named
  have hlocks := BB.notSynchronized
  subst hsz
  have hD := hD0.self (sz := s.heap.size)
  generalize hAe : va_A (wSg a cI cJ F B K N I T ++ [(adt, .inl (cI, nt, .inl ft))]) s.heap.size = A at hD ⊢
  have hA : ∀ q : Nat, s.heap.size ≤ q → A q := fun q h => by rw [← hAe]; exact Or.inr h
  have hS : va_S A s.heap s.heap [] := va_S.rf
  have hl := lv_entry [.ref (a 0), .int x1, .int x2, .ref adt] (n := 15) (Nat.le_of_ble_eq_true rfl)
  rw [lg_entry_eq]
  generalize (lg_sl [.ref (a 0), .int x1, .int x2, .ref adt] ++ List.replicate (15 - (lg_sl [.ref (a 0), .int x1, .int x2, .ref adt]).length) Slot.unset).toArray = ls at hl ⊢
  have hl : lv_has ls 15 [(0, .ref (a 0)), (1, .int x1), (2, .int x2), (3, .ref adt)] := hl
  suffices hgoal : ∀ (H : Heap) (locs : List Loc), va_P (dC, dI) vwCl (wSg a cI cJ F B K N I T ++ [(adt, .inl (cI, nt, .inl ft))]) H → va_S A s.heap H locs → W p l e (headSpec wsM_isShown ({ frames := 7, cells := 193, slots := 7412, locals := 161 } : Room)).room s m [.ref (a 0), .int x1, .int x2, .ref adt].toArray below meth c H locs 0 0 (MQ below (va_Qi (S := Unit) (fun r_ _ => r_ = r0.1) (fun _ => q_E (dC, dI) vwCl (wSg a cI cJ r0.2.1 r0.2.2.1 K r0.2.2.2 I T ++ [(adt, .inl (cI, nt, .inl ft))]) (q_ty3 cI cJ cZ) A) A) [.ref (a 0), .int x1, .int x2, .ref adt].toArray s 193 7412 A) (F0 m 0 ls []) by
    refine W.widen (k := 0) (n := 0) (by omega) (by omega) ?_
    exact hgoal s.heap [] hP hS
  clear hP hS
  intro H locs hP hS
  unfold f_L_isShown at hf
  refine lv_aload_n hx hb dL_isShown_0 rfl (lv_at hl 0 rfl) ?_
  refine lv_iload_n hx hb dL_isShown_1 rfl (lv_at hl 1 rfl) ?_
  refine lv_bipush (v := 6) hx hb dL_isShown_2 (by decide) ?_
  obtain ⟨x_1, hx_1, hf⟩ := Option.bind_eq_some_iff.mp hf
  have hPc := hP.sub (ws' := (wSg a cI cJ F B K N I T)) [0, 1, 2, 3, 4, 5, 6, 7, 8, 9, 10, 11, 12, 13, 14, 15, 16, 17] rfl
  have hDc := hD.sub (ws' := (wSg a cI cJ F B K N I T)) [0, 1, 2, 3, 4, 5, 6, 7, 8, 9, 10, 11, 12, 13, 14, 15, 16, 17] (by decide) rfl
  have hFc := va_free (wc := (wSg a cI cJ F B K N I T)) hD hS hA [0, 1, 2, 3, 4, 5, 6, 7, 8, 9, 10, 11, 12, 13, 14, 15, 16, 17] rfl
  refine va_calli (va_runV (As := [.int x1, .int 6]) (rest := []) ⟨hx, hb, hml, hown, hts⟩ (c_X5_ofLine l dC dI cI cJ a H.size F B K N I T x1 6 x_1 hx_1) (cwV 2 hts gM_isShown_X5_ofLine rfl rfl rfl (by decide +kernel) ⟨Nat.le_of_ble_eq_true rfl, Nat.le_of_ble_eq_true rfl⟩) ⟨q_Wblind, va_recv (hK.sub (tys' := q_ty cI cJ) [0, 1] rfl) hPc (ci := 5) (q0 := 0) rfl rfl, q_Wpre hPc (hK.sub (tys' := q_ty cI cJ) [0, 1] rfl) hn hDc⟩ rfl rfl hl.1 rfl (lv_room (Nat.le_of_ble_eq_true rfl)) dL_isShown_4 ⟨by show 0 + 0 ≤ 193; omega, by show 0 + 0 ≤ 7412; omega⟩) hS (fun q _ h => hFc q h) hFc (fun r_9 u t H1 locs ht hvm hw hB hz1 hk1 hS => ?_)
  subst hw
  obtain ⟨hP1, hK1, hD1⟩ := hB
  rw [ht] at hP1
  obtain ⟨hP, hD⟩ := va_join (wr := ([(adt, .inl (cI, nt, .inl ft))])) (w1 := (wSg a cI cJ F B K x_1.2 I T)) hP hD [0, 1, 2, 3, 4, 5, 6, 7, 8, 9, 10, 11, 12, 13, 14, 15, 16, 17] [18] rfl rfl (by decide) (by decide) hk1 hFc hP1 hD1
  generalize H1 = H at hP hS ⊢
  replace hP := hP.sub (ws' := (wSg a cI cJ F B K x_1.2 I T ++ [(adt, .inl (cI, nt, .inl ft))])) [1, 2, 3, 4, 5, 6, 7, 8, 9, 10, 11, 12, 13, 14, 15, 16, 17, 18, 0] rfl
  replace hD := hD.sub (ws' := (wSg a cI cJ F B K x_1.2 I T ++ [(adt, .inl (cI, nt, .inl ft))])) [1, 2, 3, 4, 5, 6, 7, 8, 9, 10, 11, 12, 13, 14, 15, 16, 17, 18, 0] (by decide) rfl
  have hP : va_P (dC, dI) vwCl (wSg a cI cJ F B K x_1.2 I T ++ [(adt, .inl (cI, nt, .inl ft))]) H := hP
  have hD : va_D A (wSg a cI cJ F B K x_1.2 I T ++ [(adt, .inl (cI, nt, .inl ft))]) := hD
  refine lv_istore (lv' := [(4, .int x_1.1), (0, .ref (a 0)), (1, .int x1), (2, .int x2), (3, .ref adt)]) hx hb dL_isShown_7 hl (by decide) rfl (fun ls hl => ?_)
  refine lv_aload_n hx hb dL_isShown_9 rfl (lv_at hl 1 rfl) ?_
  refine lv_iload_n hx hb dL_isShown_10 rfl (lv_at hl 2 rfl) ?_
  refine lv_bipush (v := 7) hx hb dL_isShown_11 (by decide) ?_
  obtain ⟨x_2, hx_2, hf⟩ := Option.bind_eq_some_iff.mp hf
  have hPc := hP.sub (ws' := (wSg a cI cJ F B K x_1.2 I T)) [0, 1, 2, 3, 4, 5, 6, 7, 8, 9, 10, 11, 12, 13, 14, 15, 16, 17] rfl
  have hDc := hD.sub (ws' := (wSg a cI cJ F B K x_1.2 I T)) [0, 1, 2, 3, 4, 5, 6, 7, 8, 9, 10, 11, 12, 13, 14, 15, 16, 17] (by decide) rfl
  have hFc := va_free (wc := (wSg a cI cJ F B K x_1.2 I T)) hD hS hA [0, 1, 2, 3, 4, 5, 6, 7, 8, 9, 10, 11, 12, 13, 14, 15, 16, 17] rfl
  refine va_calli (va_runV (As := [.int x1, .int 7]) (rest := []) ⟨hx, hb, hml, hown, hts⟩ (c_X5_ofLine l dC dI cI cJ a H.size F B K x_1.2 I T x1 7 x_2 hx_2) (cwV 2 hts gM_isShown_X5_ofLine rfl rfl rfl (by decide +kernel) ⟨Nat.le_of_ble_eq_true rfl, Nat.le_of_ble_eq_true rfl⟩) ⟨q_Wblind, va_recv (hK.sub (tys' := q_ty cI cJ) [0, 1] rfl) hPc (ci := 5) (q0 := 0) rfl rfl, q_Wpre hPc (hK.sub (tys' := q_ty cI cJ) [0, 1] rfl) hn hDc⟩ rfl rfl hl.1 rfl (lv_room (Nat.le_of_ble_eq_true rfl)) dL_isShown_13 ⟨by show 0 + 0 ≤ 193; omega, by show 0 + 0 ≤ 7412; omega⟩) hS (fun q _ h => hFc q h) hFc (fun r_9 u t H1 locs ht hvm hw hB hz1 hk1 hS => ?_)
  subst hw
  obtain ⟨hP1, hK1, hD1⟩ := hB
  rw [ht] at hP1
  obtain ⟨hP, hD⟩ := va_join (wr := ([(adt, .inl (cI, nt, .inl ft))])) (w1 := (wSg a cI cJ F B K x_2.2 I T)) hP hD [0, 1, 2, 3, 4, 5, 6, 7, 8, 9, 10, 11, 12, 13, 14, 15, 16, 17] [18] rfl rfl (by decide) (by decide) hk1 hFc hP1 hD1
  generalize H1 = H at hP hS ⊢
  replace hP := hP.sub (ws' := (wSg a cI cJ F B K x_2.2 I T ++ [(adt, .inl (cI, nt, .inl ft))])) [1, 2, 3, 4, 5, 6, 7, 8, 9, 10, 11, 12, 13, 14, 15, 16, 17, 18, 0] rfl
  replace hD := hD.sub (ws' := (wSg a cI cJ F B K x_2.2 I T ++ [(adt, .inl (cI, nt, .inl ft))])) [1, 2, 3, 4, 5, 6, 7, 8, 9, 10, 11, 12, 13, 14, 15, 16, 17, 18, 0] (by decide) rfl
  have hP : va_P (dC, dI) vwCl (wSg a cI cJ F B K x_2.2 I T ++ [(adt, .inl (cI, nt, .inl ft))]) H := hP
  have hD : va_D A (wSg a cI cJ F B K x_2.2 I T ++ [(adt, .inl (cI, nt, .inl ft))]) := hD
  refine lv_istore (lv' := [(5, .int x_2.1), (4, .int x_1.1), (0, .ref (a 0)), (1, .int x1), (2, .int x2), (3, .ref adt)]) hx hb dL_isShown_16 hl (by decide) rfl (fun ls hl => ?_)
  refine lv_aload_n hx hb dL_isShown_18 rfl (lv_at hl 2 rfl) ?_
  refine lv_bipush (v := 7) hx hb dL_isShown_19 (by decide) ?_
  obtain ⟨x_3, hx_3, hf⟩ := Option.bind_eq_some_iff.mp hf
  refine q_rV (As := [.int 7]) (rest := []) ⟨hx, hb, hml, hown, hts⟩ (c_X5_sign l dC dI cI cJ a F B K x_2.2 I T 7 x_3 hx_3) (cwV 1 hts gM_isShown_X5_sign rfl rfl rfl (by decide +kernel) ⟨Nat.le_of_ble_eq_true rfl, Nat.le_of_ble_eq_true rfl⟩) (hK.sub (tys' := q_ty cI cJ) [0, 1] rfl) hn (hP.sub (ws' := (wSg a cI cJ F B K x_2.2 I T)) [0, 1, 2, 3, 4, 5, 6, 7, 8, 9, 10, 11, 12, 13, 14, 15, 16, 17] rfl) (ci := 5) rfl rfl rfl hl.1 rfl (Nat.le_of_ble_eq_true rfl) dL_isShown_21 ⟨by show 0 ≤ 193; omega, by show 0 ≤ 7412; omega⟩ ?_
  refine lv_istore (lv' := [(6, .int x_3), (5, .int x_2.1), (4, .int x_1.1), (0, .ref (a 0)), (1, .int x1), (2, .int x2), (3, .ref adt)]) hx hb dL_isShown_24 hl (by decide) rfl (fun ls hl => ?_)
  refine lv_aload_n hx hb dL_isShown_26 rfl (lv_at hl 3 rfl) ?_
  refine lv_iconst (v := 4) hx hb dL_isShown_27 (by decide) ?_
  obtain ⟨x_4, hx_4, hf⟩ := Option.bind_eq_some_iff.mp hf
  refine q_rV (As := [.int 4]) (rest := []) ⟨hx, hb, hml, hown, hts⟩ (c_X5_sign l dC dI cI cJ a F B K x_2.2 I T 4 x_4 hx_4) (cwV 1 hts gM_isShown_X5_sign rfl rfl rfl (by decide +kernel) ⟨Nat.le_of_ble_eq_true rfl, Nat.le_of_ble_eq_true rfl⟩) (hK.sub (tys' := q_ty cI cJ) [0, 1] rfl) hn (hP.sub (ws' := (wSg a cI cJ F B K x_2.2 I T)) [0, 1, 2, 3, 4, 5, 6, 7, 8, 9, 10, 11, 12, 13, 14, 15, 16, 17] rfl) (ci := 5) rfl rfl rfl hl.1 rfl (Nat.le_of_ble_eq_true rfl) dL_isShown_28 ⟨by show 0 ≤ 193; omega, by show 0 ≤ 7412; omega⟩ ?_
  refine lv_istore (lv' := [(7, .int x_4), (6, .int x_3), (5, .int x_2.1), (4, .int x_1.1), (0, .ref (a 0)), (1, .int x1), (2, .int x2), (3, .ref adt)]) hx hb dL_isShown_31 hl (by decide) rfl (fun ls hl => ?_)
  refine lv_iconst (v := 0) hx hb dL_isShown_33 (by decide) ?_
  refine lv_iload hx hb dL_isShown_34 (lv_at hl 3 rfl) ?_
  refine va_mmax hx hb (hml.trans hl.1.symm) hown (hts (.methodLink RL 70 Lib.Math.max.name) (by decide +kernel)) (hts (.static Lib.Math.max.name) (by decide +kernel)) (hts (.initialized "java/lang/Math") (by decide +kernel)) (hts (.code Lib.Math.max.name Lib.Math.max.code 2 (some .int)) (by decide +kernel)) (by decide) (by decide) (by show 0 ≤ 193; omega) (by show 0 ≤ 7412; omega) dL_isShown_36 ?_
  by_cases nc_5 : ¬ q_ix (if (0 : Int32) < x_1.1 then x_1.1 else 0) 65 = true
  · replace hf := (if_neg nc_5).symm.trans hf
    cases hf
  have c_5 := Classical.not_not.mp nc_5
  replace hf := (if_pos c_5).symm.trans hf
  have kc_5 := q_ixlt c_5
  refine va_newa (atype := .int) (ty := .int) (a0 := ((if (0 : Int32) < x_1.1 then x_1.1 else 0).toNatClampNeg, .inl (fun _ => 0))) (N' := (if (0 : Int32) < x_1.1 then x_1.1 else 0).toNatClampNeg) hx hb (hts (.arrayClass .int) (by decide +kernel)) rfl hK hP hD hS hA (fun _ => rfl) kc_5.1 rfl (by show (if (0 : Int32) < x_1.1 then x_1.1 else 0).toNatClampNeg * 4 ≤ 536870912; omega) (by show 0 + 1 ≤ 193; omega) (by show 0 + (if (0 : Int32) < x_1.1 then x_1.1 else 0).toNatClampNeg ≤ 7412; omega) dL_isShown_39 (fun q_6 cN H hK2 hP hD hS => ?_)
  obtain rfl := q_sameI3 hK2
  refine W.widen (k := 1) (n := 64) (by omega) (by omega) ?_
  have hP : va_P (dC, dI) vwCl (wSg a cI cJ F B K x_2.2 I T ++ [(adt, .inl (cI, nt, .inl ft))] ++ [(q_6, .inl (cI, ((if (0 : Int32) < x_1.1 then x_1.1 else 0).toNatClampNeg), .inl (fun _ => 0)))]) H := hP
  have hD : va_D A (wSg a cI cJ F B K x_2.2 I T ++ [(adt, .inl (cI, nt, .inl ft))] ++ [(q_6, .inl (cI, ((if (0 : Int32) < x_1.1 then x_1.1 else 0).toNatClampNeg), .inl (fun _ => 0)))]) := hD
  refine lv_astore (lv' := [(8, .ref q_6), (7, .int x_4), (6, .int x_3), (5, .int x_2.1), (4, .int x_1.1), (0, .ref (a 0)), (1, .int x1), (2, .int x2), (3, .ref adt)]) hx hb dL_isShown_41 hl (by decide) rfl (fun ls hl => ?_)
  refine lv_iload_n hx hb dL_isShown_43 rfl (lv_at hl 7 rfl) ?_
  by_cases nc_7 : ¬ q_ix x2 65 = true
  · replace hf := (if_neg nc_7).symm.trans hf
    cases hf
  have c_7 := Classical.not_not.mp nc_7
  replace hf := (if_pos c_7).symm.trans hf
  have kc_7 := q_ixlt c_7
  refine va_newa (atype := .int) (ty := .int) (a0 := (x2.toNatClampNeg, .inl (fun _ => 0))) (N' := x2.toNatClampNeg) hx hb (hts (.arrayClass .int) (by decide +kernel)) rfl hK hP hD hS hA (fun _ => rfl) kc_7.1 rfl (by show x2.toNatClampNeg * 4 ≤ 536870912; omega) (by show 1 + 1 ≤ 193; omega) (by show 64 + x2.toNatClampNeg ≤ 7412; omega) dL_isShown_44 (fun q_8 cN H hK2 hP hD hS => ?_)
  obtain rfl := q_sameI3 hK2
  refine W.widen (k := 2) (n := 128) (by omega) (by omega) ?_
  have hP : va_P (dC, dI) vwCl (wSg a cI cJ F B K x_2.2 I T ++ [(adt, .inl (cI, nt, .inl ft))] ++ [(q_6, .inl (cI, ((if (0 : Int32) < x_1.1 then x_1.1 else 0).toNatClampNeg), .inl (fun _ => 0)))] ++ [(q_8, .inl (cI, x2.toNatClampNeg, .inl (fun _ => 0)))]) H := hP
  have hD : va_D A (wSg a cI cJ F B K x_2.2 I T ++ [(adt, .inl (cI, nt, .inl ft))] ++ [(q_6, .inl (cI, ((if (0 : Int32) < x_1.1 then x_1.1 else 0).toNatClampNeg), .inl (fun _ => 0)))] ++ [(q_8, .inl (cI, x2.toNatClampNeg, .inl (fun _ => 0)))]) := hD
  refine lv_astore (lv' := [(9, .ref q_8), (8, .ref q_6), (7, .int x_4), (6, .int x_3), (5, .int x_2.1), (4, .int x_1.1), (0, .ref (a 0)), (1, .int x1), (2, .int x2), (3, .ref adt)]) hx hb dL_isShown_46 hl (by decide) rfl (fun ls hl => ?_)
  refine lv_iload hx hb dL_isShown_48 (lv_at hl 2 rfl) ?_
  by_cases nc_9 : ¬ q_ix x_4 65 = true
  · replace hf := (if_neg nc_9).symm.trans hf
    cases hf
  have c_9 := Classical.not_not.mp nc_9
  replace hf := (if_pos c_9).symm.trans hf
  have kc_9 := q_ixlt c_9
  refine va_newa (atype := .boolean) (ty := .boolean) (a0 := (x_4.toNatClampNeg, .inl (fun _ => 0))) (N' := x_4.toNatClampNeg) hx hb (hts (.arrayClass .boolean) (by decide +kernel)) rfl hK hP hD hS hA (fun _ => rfl) kc_9.1 rfl (by show x_4.toNatClampNeg * 1 ≤ 536870912; omega) (by show 2 + 1 ≤ 193; omega) (by show 128 + x_4.toNatClampNeg ≤ 7412; omega) dL_isShown_50 (fun q_10 cN H hK2 hP hD hS => ?_)
  obtain rfl := q_sameZ3 hK2
  refine W.widen (k := 3) (n := 192) (by omega) (by omega) ?_
  have hP : va_P (dC, dI) vwCl (wSg a cI cJ F B K x_2.2 I T ++ [(adt, .inl (cI, nt, .inl ft))] ++ [(q_6, .inl (cI, ((if (0 : Int32) < x_1.1 then x_1.1 else 0).toNatClampNeg), .inl (fun _ => 0)))] ++ [(q_8, .inl (cI, x2.toNatClampNeg, .inl (fun _ => 0)))] ++ [(q_10, .inl (cZ, x_4.toNatClampNeg, .inl (fun _ => 0)))]) H := hP
  have hD : va_D A (wSg a cI cJ F B K x_2.2 I T ++ [(adt, .inl (cI, nt, .inl ft))] ++ [(q_6, .inl (cI, ((if (0 : Int32) < x_1.1 then x_1.1 else 0).toNatClampNeg), .inl (fun _ => 0)))] ++ [(q_8, .inl (cI, x2.toNatClampNeg, .inl (fun _ => 0)))] ++ [(q_10, .inl (cZ, x_4.toNatClampNeg, .inl (fun _ => 0)))]) := hD
  refine lv_astore (lv' := [(10, .ref q_10), (9, .ref q_8), (8, .ref q_6), (7, .int x_4), (6, .int x_3), (5, .int x_2.1), (4, .int x_1.1), (0, .ref (a 0)), (1, .int x1), (2, .int x2), (3, .ref adt)]) hx hb dL_isShown_52 hl (by decide) rfl (fun ls hl => ?_)
  refine lv_iconst (v := 0) hx hb dL_isShown_54 (by decide) ?_
  refine lv_istore (lv' := [(11, .int 0), (10, .ref q_10), (9, .ref q_8), (8, .ref q_6), (7, .int x_4), (6, .int x_3), (5, .int x_2.1), (4, .int x_1.1), (0, .ref (a 0)), (1, .int x1), (2, .int x2), (3, .ref adt)]) hx hb dL_isShown_55 hl (by decide) rfl (fun ls hl => ?_)
  have L_57 : ∀ (nn : Nat) (i11_57 : Int32) (N_57 : q_Pl) (A_q_6_57 : q_IA) (H : Heap) (locs : List Loc) (ls : Array Slot) (z_57 : (Int32 × q_Pl × q_IA)), lv_has ls 15 [(11, .int i11_57), (10, .ref q_10), (9, .ref q_8), (8, .ref q_6), (7, .int x_4), (6, .int x_3), (5, .int x_2.1), (4, .int x_1.1), (0, .ref (a 0)), (1, .int x1), (2, .int x2), (3, .ref adt)] → va_P (dC, dI) vwCl (wSg a cI cJ F B K N_57 I T ++ [(adt, .inl (cI, nt, .inl ft))] ++ [(q_6, .inl (cI, ((if (0 : Int32) < x_1.1 then x_1.1 else 0).toNatClampNeg), .inl A_q_6_57))] ++ [(q_8, .inl (cI, x2.toNatClampNeg, .inl (fun _ => 0)))] ++ [(q_10, .inl (cZ, x_4.toNatClampNeg, .inl (fun _ => 0)))]) H → va_D A (wSg a cI cJ F B K N_57 I T ++ [(adt, .inl (cI, nt, .inl ft))] ++ [(q_6, .inl (cI, ((if (0 : Int32) < x_1.1 then x_1.1 else 0).toNatClampNeg), .inl A_q_6_57))] ++ [(q_8, .inl (cI, x2.toNatClampNeg, .inl (fun _ => 0)))] ++ [(q_10, .inl (cZ, x_4.toNatClampNeg, .inl (fun _ => 0)))]) → va_S A s.heap H locs → fl_L_isShown_57 x1 F B K x_1 nn i11_57 N_57 A_q_6_57 = some z_57 → (∀ (H : Heap) (locs : List Loc) (ls : Array Slot), lv_has ls 15 [(11, .int z_57.1), (10, .ref q_10), (9, .ref q_8), (8, .ref q_6), (7, .int x_4), (6, .int x_3), (5, .int x_2.1), (4, .int x_1.1), (0, .ref (a 0)), (1, .int x1), (2, .int x2), (3, .ref adt)] → va_P (dC, dI) vwCl (wSg a cI cJ F B K z_57.2.1 I T ++ [(adt, .inl (cI, nt, .inl ft))] ++ [(q_6, .inl (cI, ((if (0 : Int32) < x_1.1 then x_1.1 else 0).toNatClampNeg), .inl z_57.2.2))] ++ [(q_8, .inl (cI, x2.toNatClampNeg, .inl (fun _ => 0)))] ++ [(q_10, .inl (cZ, x_4.toNatClampNeg, .inl (fun _ => 0)))]) H → va_D A (wSg a cI cJ F B K z_57.2.1 I T ++ [(adt, .inl (cI, nt, .inl ft))] ++ [(q_6, .inl (cI, ((if (0 : Int32) < x_1.1 then x_1.1 else 0).toNatClampNeg), .inl z_57.2.2))] ++ [(q_8, .inl (cI, x2.toNatClampNeg, .inl (fun _ => 0)))] ++ [(q_10, .inl (cZ, x_4.toNatClampNeg, .inl (fun _ => 0)))]) → va_S A s.heap H locs → W p l e (headSpec wsM_isShown ({ frames := 7, cells := 193, slots := 7412, locals := 161 } : Room)).room s m [.ref (a 0), .int x1, .int x2, .ref adt].toArray below meth c H locs 3 192 (MQ below (va_Qi (S := Unit) (fun r_ _ => r_ = r0.1) (fun _ => q_E (dC, dI) vwCl (wSg a cI cJ r0.2.1 r0.2.2.1 K r0.2.2.2 I T ++ [(adt, .inl (cI, nt, .inl ft))]) (q_ty3 cI cJ cZ) A) A) [.ref (a 0), .int x1, .int x2, .ref adt].toArray s 193 7412 A) (F0 m 83 ls [])) → W p l e (headSpec wsM_isShown ({ frames := 7, cells := 193, slots := 7412, locals := 161 } : Room)).room s m [.ref (a 0), .int x1, .int x2, .ref adt].toArray below meth c H locs 3 192 (MQ below (va_Qi (S := Unit) (fun r_ _ => r_ = r0.1) (fun _ => q_E (dC, dI) vwCl (wSg a cI cJ r0.2.1 r0.2.2.1 K r0.2.2.2 I T ++ [(adt, .inl (cI, nt, .inl ft))]) (q_ty3 cI cJ cZ) A) A) [.ref (a 0), .int x1, .int x2, .ref adt].toArray s 193 7412 A) (F0 m 57 ls []) := by
    intro nn
    induction nn with
    | zero =>
      intro i11_57 N_57 A_q_6_57 H locs ls z_57 hl hP hD hS hf hex_57
      rw [fl_L_isShown_57] at hf
      cases hf
    | succ nn ih =>
      intro i11_57 N_57 A_q_6_57 H locs ls z_57 hl hP hD hS hf hex_57
      rw [fl_L_isShown_57] at hf
      refine lv_iload hx hb dL_isShown_57 (lv_at hl 0 rfl) ?_
      refine lv_aload hx hb dL_isShown_59 (lv_at hl 3 rfl) ?_
      refine va_alen (v := nI (if (0 : Int32) < x_1.1 then x_1.1 else 0).toNatClampNeg) hx hb hK hP 19 0 rfl rfl rfl dL_isShown_61 ?_
      refine lv_icmp_ge (tgt := 83) hx hb dL_isShown_62 (by decide) (fun c_57001 => ?_) (fun c_57001 => ?_)
      · replace hf := (if_pos c_57001).symm.trans hf
        replace hf := Option.some.inj hf
        subst hf
        exact hex_57 H locs ls (lv_sub hl [0, 1, 2, 3, 4, 5, 6, 7, 8, 9, 10, 11] rfl) hP hD hS
      · replace hf := (if_neg c_57001).symm.trans hf
        refine lv_aload hx hb dL_isShown_65 (lv_at hl 3 rfl) ?_
        refine lv_iload hx hb dL_isShown_67 (lv_at hl 0 rfl) ?_
        refine lv_aload_n hx hb dL_isShown_69 rfl (lv_at hl 8 rfl) ?_
        refine lv_iload_n hx hb dL_isShown_70 rfl (lv_at hl 9 rfl) ?_
        refine lv_iload hx hb dL_isShown_71 (lv_at hl 0 rfl) ?_
        obtain ⟨x_57002, hx_57002, hf⟩ := Option.bind_eq_some_iff.mp hf
        have hPc := hP.sub (ws' := (wSg a cI cJ F B K N_57 I T)) [0, 1, 2, 3, 4, 5, 6, 7, 8, 9, 10, 11, 12, 13, 14, 15, 16, 17] rfl
        have hDc := hD.sub (ws' := (wSg a cI cJ F B K N_57 I T)) [0, 1, 2, 3, 4, 5, 6, 7, 8, 9, 10, 11, 12, 13, 14, 15, 16, 17] (by decide) rfl
        have hFc := va_free (wc := (wSg a cI cJ F B K N_57 I T)) hD hS hA [0, 1, 2, 3, 4, 5, 6, 7, 8, 9, 10, 11, 12, 13, 14, 15, 16, 17] rfl
        refine va_calli (va_runV (As := [.int x1, .int i11_57]) (rest := [.int i11_57, .ref q_6]) ⟨hx, hb, hml, hown, hts⟩ (c_X5_step l dC dI cI cJ a H.size F B K N_57 I T x1 i11_57 x_57002 hx_57002) (cwV 2 hts gM_isShown_X5_step rfl rfl rfl (by decide +kernel) ⟨Nat.le_of_ble_eq_true rfl, Nat.le_of_ble_eq_true rfl⟩) ⟨q_Wblind, va_recv (hK.sub (tys' := q_ty cI cJ) [0, 1] rfl) hPc (ci := 5) (q0 := 0) rfl rfl, q_Wpre hPc (hK.sub (tys' := q_ty cI cJ) [0, 1] rfl) hn hDc⟩ rfl rfl hl.1 rfl (lv_room (Nat.le_of_ble_eq_true rfl)) dL_isShown_73 ⟨by show 3 + 0 ≤ 193; omega, by show 192 + 0 ≤ 7412; omega⟩) hS (fun q _ h => hFc q h) hFc (fun r_9 u t H1 locs ht hvm hw hB hz1 hk1 hS => ?_)
        subst hw
        obtain ⟨hP1, hK1, hD1⟩ := hB
        rw [ht] at hP1
        obtain ⟨hP, hD⟩ := va_join (wr := ([(adt, .inl (cI, nt, .inl ft))] ++ [(q_6, .inl (cI, ((if (0 : Int32) < x_1.1 then x_1.1 else 0).toNatClampNeg), .inl A_q_6_57))] ++ [(q_8, .inl (cI, x2.toNatClampNeg, .inl (fun _ => 0)))] ++ [(q_10, .inl (cZ, x_4.toNatClampNeg, .inl (fun _ => 0)))])) (w1 := (wSg a cI cJ F B K x_57002.2 I T)) hP hD [0, 1, 2, 3, 4, 5, 6, 7, 8, 9, 10, 11, 12, 13, 14, 15, 16, 17] [18, 19, 20, 21] rfl rfl (by decide) (by decide) hk1 hFc hP1 hD1
        generalize H1 = H at hP hS ⊢
        replace hP := hP.sub (ws' := (wSg a cI cJ F B K x_57002.2 I T ++ [(adt, .inl (cI, nt, .inl ft))] ++ [(q_6, .inl (cI, ((if (0 : Int32) < x_1.1 then x_1.1 else 0).toNatClampNeg), .inl A_q_6_57))] ++ [(q_8, .inl (cI, x2.toNatClampNeg, .inl (fun _ => 0)))] ++ [(q_10, .inl (cZ, x_4.toNatClampNeg, .inl (fun _ => 0)))])) [4, 5, 6, 7, 8, 9, 10, 11, 12, 13, 14, 15, 16, 17, 18, 19, 20, 21, 0, 1, 2, 3] rfl
        replace hD := hD.sub (ws' := (wSg a cI cJ F B K x_57002.2 I T ++ [(adt, .inl (cI, nt, .inl ft))] ++ [(q_6, .inl (cI, ((if (0 : Int32) < x_1.1 then x_1.1 else 0).toNatClampNeg), .inl A_q_6_57))] ++ [(q_8, .inl (cI, x2.toNatClampNeg, .inl (fun _ => 0)))] ++ [(q_10, .inl (cZ, x_4.toNatClampNeg, .inl (fun _ => 0)))])) [4, 5, 6, 7, 8, 9, 10, 11, 12, 13, 14, 15, 16, 17, 18, 19, 20, 21, 0, 1, 2, 3] (by decide) rfl
        have hP : va_P (dC, dI) vwCl (wSg a cI cJ F B K x_57002.2 I T ++ [(adt, .inl (cI, nt, .inl ft))] ++ [(q_6, .inl (cI, ((if (0 : Int32) < x_1.1 then x_1.1 else 0).toNatClampNeg), .inl A_q_6_57))] ++ [(q_8, .inl (cI, x2.toNatClampNeg, .inl (fun _ => 0)))] ++ [(q_10, .inl (cZ, x_4.toNatClampNeg, .inl (fun _ => 0)))]) H := hP
        have hD : va_D A (wSg a cI cJ F B K x_57002.2 I T ++ [(adt, .inl (cI, nt, .inl ft))] ++ [(q_6, .inl (cI, ((if (0 : Int32) < x_1.1 then x_1.1 else 0).toNatClampNeg), .inl A_q_6_57))] ++ [(q_8, .inl (cI, x2.toNatClampNeg, .inl (fun _ => 0)))] ++ [(q_10, .inl (cZ, x_4.toNatClampNeg, .inl (fun _ => 0)))]) := hD
        by_cases nc_57003 : ¬ q_ix i11_57 (if (0 : Int32) < x_1.1 then x_1.1 else 0).toNatClampNeg = true
        · replace hf := (if_neg nc_57003).symm.trans hf
          cases hf
        have c_57003 := Classical.not_not.mp nc_57003
        replace hf := (if_pos c_57003).symm.trans hf
        refine va_iast hx hb hK hP hD hS 19 0 rfl rfl (q_ix_in c_57003) dL_isShown_76 (fun H locs hP hD hS => ?_)
        have hP : va_P (dC, dI) vwCl (wSg a cI cJ F B K x_57002.2 I T ++ [(adt, .inl (cI, nt, .inl ft))] ++ [(q_6, .inl (cI, ((if (0 : Int32) < x_1.1 then x_1.1 else 0).toNatClampNeg), .inl (upd A_q_6_57 i11_57.toNatClampNeg x_57002.1)))] ++ [(q_8, .inl (cI, x2.toNatClampNeg, .inl (fun _ => 0)))] ++ [(q_10, .inl (cZ, x_4.toNatClampNeg, .inl (fun _ => 0)))]) H := hP
        have hD : va_D A (wSg a cI cJ F B K x_57002.2 I T ++ [(adt, .inl (cI, nt, .inl ft))] ++ [(q_6, .inl (cI, ((if (0 : Int32) < x_1.1 then x_1.1 else 0).toNatClampNeg), .inl (upd A_q_6_57 i11_57.toNatClampNeg x_57002.1)))] ++ [(q_8, .inl (cI, x2.toNatClampNeg, .inl (fun _ => 0)))] ++ [(q_10, .inl (cZ, x_4.toNatClampNeg, .inl (fun _ => 0)))]) := hD
        refine lv_iinc (v := i11_57 + 1) (lv' := [(11, .int (i11_57 + 1)), (10, .ref q_10), (9, .ref q_8), (8, .ref q_6), (7, .int x_4), (6, .int x_3), (5, .int x_2.1), (4, .int x_1.1), (0, .ref (a 0)), (1, .int x1), (2, .int x2), (3, .ref adt)]) hx hb dL_isShown_77 hl (k := 0) rfl rfl (by decide) rfl (fun ls hl => ?_)
        refine lv_goto (tgt := 57) hx hb dL_isShown_80 (by decide) ?_
        exact ih (i11_57 + 1) x_57002.2 (upd A_q_6_57 i11_57.toNatClampNeg x_57002.1) H locs ls _ (lv_sub hl [0, 1, 2, 3, 4, 5, 6, 7, 8, 9, 10, 11] rfl) hP hD hS hf hex_57
  obtain ⟨z_11, hz_11, hf⟩ := Option.bind_eq_some_iff.mp hf
  refine L_57 1000 0 x_2.2 (fun _ => 0) H locs ls z_11 (lv_sub hl [0, 1, 2, 3, 4, 5, 6, 7, 8, 9, 10, 11] rfl) hP hD hS hz_11 (fun H locs ls hl hP hD hS => ?_)
  refine lv_iconst (v := 0) hx hb dL_isShown_83 (by decide) ?_
  refine lv_istore (lv' := [(11, .int 0), (10, .ref q_10), (9, .ref q_8), (8, .ref q_6), (7, .int x_4), (6, .int x_3), (5, .int x_2.1), (4, .int x_1.1), (0, .ref (a 0)), (1, .int x1), (2, .int x2), (3, .ref adt)]) hx hb dL_isShown_84 hl (by decide) rfl (fun ls hl => ?_)
  have L_86 : ∀ (nn : Nat) (i11_86 : Int32) (A_q_8_86 : q_IA) (H : Heap) (locs : List Loc) (ls : Array Slot) (z_86 : (Int32 × q_IA)), lv_has ls 15 [(11, .int i11_86), (10, .ref q_10), (9, .ref q_8), (8, .ref q_6), (7, .int x_4), (6, .int x_3), (5, .int x_2.1), (4, .int x_1.1), (0, .ref (a 0)), (1, .int x1), (2, .int x2), (3, .ref adt)] → va_P (dC, dI) vwCl (wSg a cI cJ F B K z_11.2.1 I T ++ [(adt, .inl (cI, nt, .inl ft))] ++ [(q_6, .inl (cI, ((if (0 : Int32) < x_1.1 then x_1.1 else 0).toNatClampNeg), .inl z_11.2.2))] ++ [(q_8, .inl (cI, x2.toNatClampNeg, .inl A_q_8_86))] ++ [(q_10, .inl (cZ, x_4.toNatClampNeg, .inl (fun _ => 0)))]) H → va_D A (wSg a cI cJ F B K z_11.2.1 I T ++ [(adt, .inl (cI, nt, .inl ft))] ++ [(q_6, .inl (cI, ((if (0 : Int32) < x_1.1 then x_1.1 else 0).toNatClampNeg), .inl z_11.2.2))] ++ [(q_8, .inl (cI, x2.toNatClampNeg, .inl A_q_8_86))] ++ [(q_10, .inl (cZ, x_4.toNatClampNeg, .inl (fun _ => 0)))]) → va_S A s.heap H locs → fl_L_isShown_86 x2 B nn i11_86 A_q_8_86 = some z_86 → (∀ (H : Heap) (locs : List Loc) (ls : Array Slot), lv_has ls 15 [(11, .int z_86.1), (10, .ref q_10), (9, .ref q_8), (8, .ref q_6), (7, .int x_4), (6, .int x_3), (5, .int x_2.1), (4, .int x_1.1), (0, .ref (a 0)), (1, .int x1), (2, .int x2), (3, .ref adt)] → va_P (dC, dI) vwCl (wSg a cI cJ F B K z_11.2.1 I T ++ [(adt, .inl (cI, nt, .inl ft))] ++ [(q_6, .inl (cI, ((if (0 : Int32) < x_1.1 then x_1.1 else 0).toNatClampNeg), .inl z_11.2.2))] ++ [(q_8, .inl (cI, x2.toNatClampNeg, .inl z_86.2))] ++ [(q_10, .inl (cZ, x_4.toNatClampNeg, .inl (fun _ => 0)))]) H → va_D A (wSg a cI cJ F B K z_11.2.1 I T ++ [(adt, .inl (cI, nt, .inl ft))] ++ [(q_6, .inl (cI, ((if (0 : Int32) < x_1.1 then x_1.1 else 0).toNatClampNeg), .inl z_11.2.2))] ++ [(q_8, .inl (cI, x2.toNatClampNeg, .inl z_86.2))] ++ [(q_10, .inl (cZ, x_4.toNatClampNeg, .inl (fun _ => 0)))]) → va_S A s.heap H locs → W p l e (headSpec wsM_isShown ({ frames := 7, cells := 193, slots := 7412, locals := 161 } : Room)).room s m [.ref (a 0), .int x1, .int x2, .ref adt].toArray below meth c H locs 3 192 (MQ below (va_Qi (S := Unit) (fun r_ _ => r_ = r0.1) (fun _ => q_E (dC, dI) vwCl (wSg a cI cJ r0.2.1 r0.2.2.1 K r0.2.2.2 I T ++ [(adt, .inl (cI, nt, .inl ft))]) (q_ty3 cI cJ cZ) A) A) [.ref (a 0), .int x1, .int x2, .ref adt].toArray s 193 7412 A) (F0 m 110 ls [])) → W p l e (headSpec wsM_isShown ({ frames := 7, cells := 193, slots := 7412, locals := 161 } : Room)).room s m [.ref (a 0), .int x1, .int x2, .ref adt].toArray below meth c H locs 3 192 (MQ below (va_Qi (S := Unit) (fun r_ _ => r_ = r0.1) (fun _ => q_E (dC, dI) vwCl (wSg a cI cJ r0.2.1 r0.2.2.1 K r0.2.2.2 I T ++ [(adt, .inl (cI, nt, .inl ft))]) (q_ty3 cI cJ cZ) A) A) [.ref (a 0), .int x1, .int x2, .ref adt].toArray s 193 7412 A) (F0 m 86 ls []) := by
    intro nn
    induction nn with
    | zero =>
      intro i11_86 A_q_8_86 H locs ls z_86 hl hP hD hS hf hex_86
      rw [fl_L_isShown_86] at hf
      cases hf
    | succ nn ih =>
      intro i11_86 A_q_8_86 H locs ls z_86 hl hP hD hS hf hex_86
      rw [fl_L_isShown_86] at hf
      refine lv_iload hx hb dL_isShown_86 (lv_at hl 0 rfl) ?_
      refine lv_iload_n hx hb dL_isShown_88 rfl (lv_at hl 10 rfl) ?_
      refine lv_icmp_ge (tgt := 110) hx hb dL_isShown_89 (by decide) (fun c_86001 => ?_) (fun c_86001 => ?_)
      · replace hf := (if_pos c_86001).symm.trans hf
        replace hf := Option.some.inj hf
        subst hf
        exact hex_86 H locs ls (lv_sub hl [0, 1, 2, 3, 4, 5, 6, 7, 8, 9, 10, 11] rfl) hP hD hS
      · replace hf := (if_neg c_86001).symm.trans hf
        refine lv_aload hx hb dL_isShown_92 (lv_at hl 2 rfl) ?_
        refine lv_iload hx hb dL_isShown_94 (lv_at hl 0 rfl) ?_
        refine lv_aload_n hx hb dL_isShown_96 rfl (lv_at hl 8 rfl) ?_
        refine lv_iload hx hb dL_isShown_97 (lv_at hl 0 rfl) ?_
        refine lv_iconst (v := 0) hx hb dL_isShown_99 (by decide) ?_
        obtain ⟨x_86002, hx_86002, hf⟩ := Option.bind_eq_some_iff.mp hf
        refine q_rV (As := [.int i11_86, .int 0]) (rest := [.int i11_86, .ref q_8]) ⟨hx, hb, hml, hown, hts⟩ (c_X5_column l dC dI cI cJ a F B K z_11.2.1 I T i11_86 0 x_86002 hx_86002) (cwV 2 hts gM_isShown_X5_column rfl rfl rfl (by decide +kernel) ⟨Nat.le_of_ble_eq_true rfl, Nat.le_of_ble_eq_true rfl⟩) (hK.sub (tys' := q_ty cI cJ) [0, 1] rfl) hn (hP.sub (ws' := (wSg a cI cJ F B K z_11.2.1 I T)) [0, 1, 2, 3, 4, 5, 6, 7, 8, 9, 10, 11, 12, 13, 14, 15, 16, 17] rfl) (ci := 5) rfl rfl rfl hl.1 rfl (Nat.le_of_ble_eq_true rfl) dL_isShown_100 ⟨by show 3 ≤ 193; omega, by show 192 ≤ 7412; omega⟩ ?_
        by_cases nc_86003 : ¬ q_ix i11_86 x2.toNatClampNeg = true
        · replace hf := (if_neg nc_86003).symm.trans hf
          cases hf
        have c_86003 := Classical.not_not.mp nc_86003
        replace hf := (if_pos c_86003).symm.trans hf
        refine va_iast hx hb hK hP hD hS 20 0 rfl rfl (q_ix_in c_86003) dL_isShown_103 (fun H locs hP hD hS => ?_)
        have hP : va_P (dC, dI) vwCl (wSg a cI cJ F B K z_11.2.1 I T ++ [(adt, .inl (cI, nt, .inl ft))] ++ [(q_6, .inl (cI, ((if (0 : Int32) < x_1.1 then x_1.1 else 0).toNatClampNeg), .inl z_11.2.2))] ++ [(q_8, .inl (cI, x2.toNatClampNeg, .inl (upd A_q_8_86 i11_86.toNatClampNeg x_86002)))] ++ [(q_10, .inl (cZ, x_4.toNatClampNeg, .inl (fun _ => 0)))]) H := hP
        have hD : va_D A (wSg a cI cJ F B K z_11.2.1 I T ++ [(adt, .inl (cI, nt, .inl ft))] ++ [(q_6, .inl (cI, ((if (0 : Int32) < x_1.1 then x_1.1 else 0).toNatClampNeg), .inl z_11.2.2))] ++ [(q_8, .inl (cI, x2.toNatClampNeg, .inl (upd A_q_8_86 i11_86.toNatClampNeg x_86002)))] ++ [(q_10, .inl (cZ, x_4.toNatClampNeg, .inl (fun _ => 0)))]) := hD
        refine lv_iinc (v := i11_86 + 1) (lv' := [(11, .int (i11_86 + 1)), (10, .ref q_10), (9, .ref q_8), (8, .ref q_6), (7, .int x_4), (6, .int x_3), (5, .int x_2.1), (4, .int x_1.1), (0, .ref (a 0)), (1, .int x1), (2, .int x2), (3, .ref adt)]) hx hb dL_isShown_104 hl (k := 0) rfl rfl (by decide) rfl (fun ls hl => ?_)
        refine lv_goto (tgt := 86) hx hb dL_isShown_107 (by decide) ?_
        exact ih (i11_86 + 1) (upd A_q_8_86 i11_86.toNatClampNeg x_86002) H locs ls _ (lv_sub hl [0, 1, 2, 3, 4, 5, 6, 7, 8, 9, 10, 11] rfl) hP hD hS hf hex_86
  obtain ⟨z_12, hz_12, hf⟩ := Option.bind_eq_some_iff.mp hf
  refine L_86 1000 0 (fun _ => 0) H locs ls z_12 (lv_sub hl [0, 1, 2, 3, 4, 5, 6, 7, 8, 9, 10, 11] rfl) hP hD hS hz_12 (fun H locs ls hl hP hD hS => ?_)
  refine lv_iconst (v := 0) hx hb dL_isShown_110 (by decide) ?_
  refine lv_istore (lv' := [(11, .int 0), (10, .ref q_10), (9, .ref q_8), (8, .ref q_6), (7, .int x_4), (6, .int x_3), (5, .int x_2.1), (4, .int x_1.1), (0, .ref (a 0)), (1, .int x1), (2, .int x2), (3, .ref adt)]) hx hb dL_isShown_111 hl (by decide) rfl (fun ls hl => ?_)
  have L_113 : ∀ (nn : Nat) (i11_113 : Int32) (N_113 : q_Pl) (A_q_10_113 : q_IA) (H : Heap) (locs : List Loc) (ls : Array Slot) (z_113 : (Int32 × q_Pl × q_IA)), lv_has ls 15 [(11, .int i11_113), (10, .ref q_10), (9, .ref q_8), (8, .ref q_6), (7, .int x_4), (6, .int x_3), (5, .int x_2.1), (4, .int x_1.1), (0, .ref (a 0)), (1, .int x1), (2, .int x2), (3, .ref adt)] → va_P (dC, dI) vwCl (wSg a cI cJ F B K N_113 I T ++ [(adt, .inl (cI, nt, .inl ft))] ++ [(q_6, .inl (cI, ((if (0 : Int32) < x_1.1 then x_1.1 else 0).toNatClampNeg), .inl z_11.2.2))] ++ [(q_8, .inl (cI, x2.toNatClampNeg, .inl z_12.2))] ++ [(q_10, .inl (cZ, x_4.toNatClampNeg, .inl A_q_10_113))]) H → va_D A (wSg a cI cJ F B K N_113 I T ++ [(adt, .inl (cI, nt, .inl ft))] ++ [(q_6, .inl (cI, ((if (0 : Int32) < x_1.1 then x_1.1 else 0).toNatClampNeg), .inl z_11.2.2))] ++ [(q_8, .inl (cI, x2.toNatClampNeg, .inl z_12.2))] ++ [(q_10, .inl (cZ, x_4.toNatClampNeg, .inl A_q_10_113))]) → va_S A s.heap H locs → fl_L_isShown_113 x1 F B K x_4 nn i11_113 N_113 A_q_10_113 = some z_113 → (∀ (H : Heap) (locs : List Loc) (ls : Array Slot), lv_has ls 15 [(11, .int z_113.1), (10, .ref q_10), (9, .ref q_8), (8, .ref q_6), (7, .int x_4), (6, .int x_3), (5, .int x_2.1), (4, .int x_1.1), (0, .ref (a 0)), (1, .int x1), (2, .int x2), (3, .ref adt)] → va_P (dC, dI) vwCl (wSg a cI cJ F B K z_113.2.1 I T ++ [(adt, .inl (cI, nt, .inl ft))] ++ [(q_6, .inl (cI, ((if (0 : Int32) < x_1.1 then x_1.1 else 0).toNatClampNeg), .inl z_11.2.2))] ++ [(q_8, .inl (cI, x2.toNatClampNeg, .inl z_12.2))] ++ [(q_10, .inl (cZ, x_4.toNatClampNeg, .inl z_113.2.2))]) H → va_D A (wSg a cI cJ F B K z_113.2.1 I T ++ [(adt, .inl (cI, nt, .inl ft))] ++ [(q_6, .inl (cI, ((if (0 : Int32) < x_1.1 then x_1.1 else 0).toNatClampNeg), .inl z_11.2.2))] ++ [(q_8, .inl (cI, x2.toNatClampNeg, .inl z_12.2))] ++ [(q_10, .inl (cZ, x_4.toNatClampNeg, .inl z_113.2.2))]) → va_S A s.heap H locs → W p l e (headSpec wsM_isShown ({ frames := 7, cells := 193, slots := 7412, locals := 161 } : Room)).room s m [.ref (a 0), .int x1, .int x2, .ref adt].toArray below meth c H locs 3 192 (MQ below (va_Qi (S := Unit) (fun r_ _ => r_ = r0.1) (fun _ => q_E (dC, dI) vwCl (wSg a cI cJ r0.2.1 r0.2.2.1 K r0.2.2.2 I T ++ [(adt, .inl (cI, nt, .inl ft))]) (q_ty3 cI cJ cZ) A) A) [.ref (a 0), .int x1, .int x2, .ref adt].toArray s 193 7412 A) (F0 m 153 ls [])) → W p l e (headSpec wsM_isShown ({ frames := 7, cells := 193, slots := 7412, locals := 161 } : Room)).room s m [.ref (a 0), .int x1, .int x2, .ref adt].toArray below meth c H locs 3 192 (MQ below (va_Qi (S := Unit) (fun r_ _ => r_ = r0.1) (fun _ => q_E (dC, dI) vwCl (wSg a cI cJ r0.2.1 r0.2.2.1 K r0.2.2.2 I T ++ [(adt, .inl (cI, nt, .inl ft))]) (q_ty3 cI cJ cZ) A) A) [.ref (a 0), .int x1, .int x2, .ref adt].toArray s 193 7412 A) (F0 m 113 ls []) := by
    intro nn
    induction nn with
    | zero =>
      intro i11_113 N_113 A_q_10_113 H locs ls z_113 hl hP hD hS hf hex_113
      rw [fl_L_isShown_113] at hf
      cases hf
    | succ nn ih =>
      intro i11_113 N_113 A_q_10_113 H locs ls z_113 hl hP hD hS hf hex_113
      rw [fl_L_isShown_113] at hf
      refine lv_iload hx hb dL_isShown_113 (lv_at hl 0 rfl) ?_
      refine lv_iload hx hb dL_isShown_115 (lv_at hl 4 rfl) ?_
      refine lv_icmp_ge (tgt := 153) hx hb dL_isShown_117 (by decide) (fun c_113001 => ?_) (fun c_113001 => ?_)
      · replace hf := (if_pos c_113001).symm.trans hf
        replace hf := Option.some.inj hf
        subst hf
        exact hex_113 H locs ls (lv_sub hl [0, 1, 2, 3, 4, 5, 6, 7, 8, 9, 10, 11] rfl) hP hD hS
      · replace hf := (if_neg c_113001).symm.trans hf
        refine lv_aload hx hb dL_isShown_120 (lv_at hl 1 rfl) ?_
        refine lv_iload hx hb dL_isShown_122 (lv_at hl 0 rfl) ?_
        refine lv_iload hx hb dL_isShown_124 (lv_at hl 0 rfl) ?_
        refine lv_iload_n hx hb dL_isShown_126 rfl (lv_at hl 9 rfl) ?_
        refine lv_icmp_eq (tgt := 141) hx hb dL_isShown_127 (by decide) (fun c_113002 => ?_) (fun c_113002 => ?_)
        · replace hf := (if_pos c_113002).symm.trans hf
          refine lv_iconst (v := 1) hx hb dL_isShown_141 (by decide) ?_
          refine lv_goto (tgt := 146) hx hb dL_isShown_142 (by decide) ?_
          by_cases nc_113003 : ¬ q_ix i11_113 x_4.toNatClampNeg = true
          · replace hf := (if_neg nc_113003).symm.trans hf
            cases hf
          have c_113003 := Classical.not_not.mp nc_113003
          replace hf := (if_pos c_113003).symm.trans hf
          refine va_zast hx hb hK hP hD hS 21 2 rfl rfl (q_ix_in c_113003) dL_isShown_146 (fun H locs hP hD hS => ?_)
          have hP : va_P (dC, dI) vwCl (wSg a cI cJ F B K N_113 I T ++ [(adt, .inl (cI, nt, .inl ft))] ++ [(q_6, .inl (cI, ((if (0 : Int32) < x_1.1 then x_1.1 else 0).toNatClampNeg), .inl z_11.2.2))] ++ [(q_8, .inl (cI, x2.toNatClampNeg, .inl z_12.2))] ++ [(q_10, .inl (cZ, x_4.toNatClampNeg, .inl (upd A_q_10_113 i11_113.toNatClampNeg 1)))]) H := hP
          have hD : va_D A (wSg a cI cJ F B K N_113 I T ++ [(adt, .inl (cI, nt, .inl ft))] ++ [(q_6, .inl (cI, ((if (0 : Int32) < x_1.1 then x_1.1 else 0).toNatClampNeg), .inl z_11.2.2))] ++ [(q_8, .inl (cI, x2.toNatClampNeg, .inl z_12.2))] ++ [(q_10, .inl (cZ, x_4.toNatClampNeg, .inl (upd A_q_10_113 i11_113.toNatClampNeg 1)))]) := hD
          refine lv_iinc (v := i11_113 + 1) (lv' := [(11, .int (i11_113 + 1)), (10, .ref q_10), (9, .ref q_8), (8, .ref q_6), (7, .int x_4), (6, .int x_3), (5, .int x_2.1), (4, .int x_1.1), (0, .ref (a 0)), (1, .int x1), (2, .int x2), (3, .ref adt)]) hx hb dL_isShown_147 hl (k := 0) rfl rfl (by decide) rfl (fun ls hl => ?_)
          refine lv_goto (tgt := 113) hx hb dL_isShown_150 (by decide) ?_
          exact ih (i11_113 + 1) N_113 (upd A_q_10_113 i11_113.toNatClampNeg 1) H locs ls _ (lv_sub hl [0, 1, 2, 3, 4, 5, 6, 7, 8, 9, 10, 11] rfl) hP hD hS hf hex_113
        · replace hf := (if_neg c_113002).symm.trans hf
          refine lv_aload_n hx hb dL_isShown_130 rfl (lv_at hl 8 rfl) ?_
          refine lv_iload hx hb dL_isShown_131 (lv_at hl 0 rfl) ?_
          refine lv_iconst (v := 5) hx hb dL_isShown_133 (by decide) ?_
          obtain ⟨x_113004, hx_113004, hf⟩ := Option.bind_eq_some_iff.mp hf
          have hPc := hP.sub (ws' := (wSg a cI cJ F B K N_113 I T)) [0, 1, 2, 3, 4, 5, 6, 7, 8, 9, 10, 11, 12, 13, 14, 15, 16, 17] rfl
          have hDc := hD.sub (ws' := (wSg a cI cJ F B K N_113 I T)) [0, 1, 2, 3, 4, 5, 6, 7, 8, 9, 10, 11, 12, 13, 14, 15, 16, 17] (by decide) rfl
          have hFc := va_free (wc := (wSg a cI cJ F B K N_113 I T)) hD hS hA [0, 1, 2, 3, 4, 5, 6, 7, 8, 9, 10, 11, 12, 13, 14, 15, 16, 17] rfl
          refine va_calli (va_runV (As := [.int i11_113, .int 5]) (rest := [.int i11_113, .ref q_10]) ⟨hx, hb, hml, hown, hts⟩ (c_X5_ofLine l dC dI cI cJ a H.size F B K N_113 I T i11_113 5 x_113004 hx_113004) (cwV 2 hts gM_isShown_X5_ofLine rfl rfl rfl (by decide +kernel) ⟨Nat.le_of_ble_eq_true rfl, Nat.le_of_ble_eq_true rfl⟩) ⟨q_Wblind, va_recv (hK.sub (tys' := q_ty cI cJ) [0, 1] rfl) hPc (ci := 5) (q0 := 0) rfl rfl, q_Wpre hPc (hK.sub (tys' := q_ty cI cJ) [0, 1] rfl) hn hDc⟩ rfl rfl hl.1 rfl (lv_room (Nat.le_of_ble_eq_true rfl)) dL_isShown_134 ⟨by show 3 + 0 ≤ 193; omega, by show 192 + 0 ≤ 7412; omega⟩) hS (fun q _ h => hFc q h) hFc (fun r_9 u t H1 locs ht hvm hw hB hz1 hk1 hS => ?_)
          subst hw
          obtain ⟨hP1, hK1, hD1⟩ := hB
          rw [ht] at hP1
          obtain ⟨hP, hD⟩ := va_join (wr := ([(adt, .inl (cI, nt, .inl ft))] ++ [(q_6, .inl (cI, ((if (0 : Int32) < x_1.1 then x_1.1 else 0).toNatClampNeg), .inl z_11.2.2))] ++ [(q_8, .inl (cI, x2.toNatClampNeg, .inl z_12.2))] ++ [(q_10, .inl (cZ, x_4.toNatClampNeg, .inl A_q_10_113))])) (w1 := (wSg a cI cJ F B K x_113004.2 I T)) hP hD [0, 1, 2, 3, 4, 5, 6, 7, 8, 9, 10, 11, 12, 13, 14, 15, 16, 17] [18, 19, 20, 21] rfl rfl (by decide) (by decide) hk1 hFc hP1 hD1
          generalize H1 = H at hP hS ⊢
          replace hP := hP.sub (ws' := (wSg a cI cJ F B K x_113004.2 I T ++ [(adt, .inl (cI, nt, .inl ft))] ++ [(q_6, .inl (cI, ((if (0 : Int32) < x_1.1 then x_1.1 else 0).toNatClampNeg), .inl z_11.2.2))] ++ [(q_8, .inl (cI, x2.toNatClampNeg, .inl z_12.2))] ++ [(q_10, .inl (cZ, x_4.toNatClampNeg, .inl A_q_10_113))])) [4, 5, 6, 7, 8, 9, 10, 11, 12, 13, 14, 15, 16, 17, 18, 19, 20, 21, 0, 1, 2, 3] rfl
          replace hD := hD.sub (ws' := (wSg a cI cJ F B K x_113004.2 I T ++ [(adt, .inl (cI, nt, .inl ft))] ++ [(q_6, .inl (cI, ((if (0 : Int32) < x_1.1 then x_1.1 else 0).toNatClampNeg), .inl z_11.2.2))] ++ [(q_8, .inl (cI, x2.toNatClampNeg, .inl z_12.2))] ++ [(q_10, .inl (cZ, x_4.toNatClampNeg, .inl A_q_10_113))])) [4, 5, 6, 7, 8, 9, 10, 11, 12, 13, 14, 15, 16, 17, 18, 19, 20, 21, 0, 1, 2, 3] (by decide) rfl
          have hP : va_P (dC, dI) vwCl (wSg a cI cJ F B K x_113004.2 I T ++ [(adt, .inl (cI, nt, .inl ft))] ++ [(q_6, .inl (cI, ((if (0 : Int32) < x_1.1 then x_1.1 else 0).toNatClampNeg), .inl z_11.2.2))] ++ [(q_8, .inl (cI, x2.toNatClampNeg, .inl z_12.2))] ++ [(q_10, .inl (cZ, x_4.toNatClampNeg, .inl A_q_10_113))]) H := hP
          have hD : va_D A (wSg a cI cJ F B K x_113004.2 I T ++ [(adt, .inl (cI, nt, .inl ft))] ++ [(q_6, .inl (cI, ((if (0 : Int32) < x_1.1 then x_1.1 else 0).toNatClampNeg), .inl z_11.2.2))] ++ [(q_8, .inl (cI, x2.toNatClampNeg, .inl z_12.2))] ++ [(q_10, .inl (cZ, x_4.toNatClampNeg, .inl A_q_10_113))]) := hD
          refine lv_iconst (v := 1) hx hb dL_isShown_137 (by decide) ?_
          refine lv_icmp_ne (tgt := 145) hx hb dL_isShown_138 (by decide) (fun c_113005 => ?_) (fun c_113005 => ?_)
          · replace hf := (if_neg c_113005).symm.trans hf
            refine lv_iconst (v := 0) hx hb dL_isShown_145 (by decide) ?_
            by_cases nc_113006 : ¬ q_ix i11_113 x_4.toNatClampNeg = true
            · replace hf := (if_neg nc_113006).symm.trans hf
              cases hf
            have c_113006 := Classical.not_not.mp nc_113006
            replace hf := (if_pos c_113006).symm.trans hf
            refine va_zast hx hb hK hP hD hS 21 2 rfl rfl (q_ix_in c_113006) dL_isShown_146 (fun H locs hP hD hS => ?_)
            have hP : va_P (dC, dI) vwCl (wSg a cI cJ F B K x_113004.2 I T ++ [(adt, .inl (cI, nt, .inl ft))] ++ [(q_6, .inl (cI, ((if (0 : Int32) < x_1.1 then x_1.1 else 0).toNatClampNeg), .inl z_11.2.2))] ++ [(q_8, .inl (cI, x2.toNatClampNeg, .inl z_12.2))] ++ [(q_10, .inl (cZ, x_4.toNatClampNeg, .inl (upd A_q_10_113 i11_113.toNatClampNeg 0)))]) H := hP
            have hD : va_D A (wSg a cI cJ F B K x_113004.2 I T ++ [(adt, .inl (cI, nt, .inl ft))] ++ [(q_6, .inl (cI, ((if (0 : Int32) < x_1.1 then x_1.1 else 0).toNatClampNeg), .inl z_11.2.2))] ++ [(q_8, .inl (cI, x2.toNatClampNeg, .inl z_12.2))] ++ [(q_10, .inl (cZ, x_4.toNatClampNeg, .inl (upd A_q_10_113 i11_113.toNatClampNeg 0)))]) := hD
            refine lv_iinc (v := i11_113 + 1) (lv' := [(11, .int (i11_113 + 1)), (10, .ref q_10), (9, .ref q_8), (8, .ref q_6), (7, .int x_4), (6, .int x_3), (5, .int x_2.1), (4, .int x_1.1), (0, .ref (a 0)), (1, .int x1), (2, .int x2), (3, .ref adt)]) hx hb dL_isShown_147 hl (k := 0) rfl rfl (by decide) rfl (fun ls hl => ?_)
            refine lv_goto (tgt := 113) hx hb dL_isShown_150 (by decide) ?_
            exact ih (i11_113 + 1) x_113004.2 (upd A_q_10_113 i11_113.toNatClampNeg 0) H locs ls _ (lv_sub hl [0, 1, 2, 3, 4, 5, 6, 7, 8, 9, 10, 11] rfl) hP hD hS hf hex_113
          · replace hf := (if_pos c_113005).symm.trans hf
            refine lv_iconst (v := 1) hx hb dL_isShown_141 (by decide) ?_
            refine lv_goto (tgt := 146) hx hb dL_isShown_142 (by decide) ?_
            by_cases nc_113007 : ¬ q_ix i11_113 x_4.toNatClampNeg = true
            · replace hf := (if_neg nc_113007).symm.trans hf
              cases hf
            have c_113007 := Classical.not_not.mp nc_113007
            replace hf := (if_pos c_113007).symm.trans hf
            refine va_zast hx hb hK hP hD hS 21 2 rfl rfl (q_ix_in c_113007) dL_isShown_146 (fun H locs hP hD hS => ?_)
            have hP : va_P (dC, dI) vwCl (wSg a cI cJ F B K x_113004.2 I T ++ [(adt, .inl (cI, nt, .inl ft))] ++ [(q_6, .inl (cI, ((if (0 : Int32) < x_1.1 then x_1.1 else 0).toNatClampNeg), .inl z_11.2.2))] ++ [(q_8, .inl (cI, x2.toNatClampNeg, .inl z_12.2))] ++ [(q_10, .inl (cZ, x_4.toNatClampNeg, .inl (upd A_q_10_113 i11_113.toNatClampNeg 1)))]) H := hP
            have hD : va_D A (wSg a cI cJ F B K x_113004.2 I T ++ [(adt, .inl (cI, nt, .inl ft))] ++ [(q_6, .inl (cI, ((if (0 : Int32) < x_1.1 then x_1.1 else 0).toNatClampNeg), .inl z_11.2.2))] ++ [(q_8, .inl (cI, x2.toNatClampNeg, .inl z_12.2))] ++ [(q_10, .inl (cZ, x_4.toNatClampNeg, .inl (upd A_q_10_113 i11_113.toNatClampNeg 1)))]) := hD
            refine lv_iinc (v := i11_113 + 1) (lv' := [(11, .int (i11_113 + 1)), (10, .ref q_10), (9, .ref q_8), (8, .ref q_6), (7, .int x_4), (6, .int x_3), (5, .int x_2.1), (4, .int x_1.1), (0, .ref (a 0)), (1, .int x1), (2, .int x2), (3, .ref adt)]) hx hb dL_isShown_147 hl (k := 0) rfl rfl (by decide) rfl (fun ls hl => ?_)
            refine lv_goto (tgt := 113) hx hb dL_isShown_150 (by decide) ?_
            exact ih (i11_113 + 1) x_113004.2 (upd A_q_10_113 i11_113.toNatClampNeg 1) H locs ls _ (lv_sub hl [0, 1, 2, 3, 4, 5, 6, 7, 8, 9, 10, 11] rfl) hP hD hS hf hex_113
  obtain ⟨z_13, hz_13, hf⟩ := Option.bind_eq_some_iff.mp hf
  refine L_113 1000 0 z_11.2.1 (fun _ => 0) H locs ls z_13 (lv_sub hl [0, 1, 2, 3, 4, 5, 6, 7, 8, 9, 10, 11] rfl) hP hD hS hz_13 (fun H locs ls hl hP hD hS => ?_)
  refine lv_aload_n hx hb dL_isShown_153 rfl (lv_at hl 8 rfl) ?_
  refine lv_iload_n hx hb dL_isShown_154 rfl (lv_at hl 9 rfl) ?_
  obtain ⟨x_14, hx_14, hf⟩ := Option.bind_eq_some_iff.mp hf
  have hPc := hP.sub (ws' := (wSg a cI cJ F B K z_13.2.1 I T)) [0, 1, 2, 3, 4, 5, 6, 7, 8, 9, 10, 11, 12, 13, 14, 15, 16, 17] rfl
  have hDc := hD.sub (ws' := (wSg a cI cJ F B K z_13.2.1 I T)) [0, 1, 2, 3, 4, 5, 6, 7, 8, 9, 10, 11, 12, 13, 14, 15, 16, 17] (by decide) rfl
  have hFc := va_free (wc := (wSg a cI cJ F B K z_13.2.1 I T)) hD hS hA [0, 1, 2, 3, 4, 5, 6, 7, 8, 9, 10, 11, 12, 13, 14, 15, 16, 17] rfl
  refine va_calli (va_runV (As := [.int x1]) (rest := []) ⟨hx, hb, hml, hown, hts⟩ (c_X5_show l dC dI cI cJ a H.size F B K z_13.2.1 I T x1 x_14 hx_14) (cwV 1 hts gM_isShown_X5_show rfl rfl rfl (by decide +kernel) ⟨Nat.le_of_ble_eq_true rfl, Nat.le_of_ble_eq_true rfl⟩) ⟨q_Wblind, va_recv (hK.sub (tys' := q_ty cI cJ) [0, 1] rfl) hPc (ci := 5) (q0 := 0) rfl rfl, q_Wpre hPc (hK.sub (tys' := q_ty cI cJ) [0, 1] rfl) hn hDc⟩ rfl rfl hl.1 rfl (lv_room (Nat.le_of_ble_eq_true rfl)) dL_isShown_155 ⟨by show 3 + 0 ≤ 193; omega, by show 192 + 0 ≤ 7412; omega⟩) hS (fun q _ h => hFc q h) hFc (fun r_9 u t H1 locs ht hvm hw hB hz1 hk1 hS => ?_)
  subst hw
  obtain ⟨hP1, hK1, hD1⟩ := hB
  rw [ht] at hP1
  obtain ⟨hP, hD⟩ := va_join (wr := ([(adt, .inl (cI, nt, .inl ft))] ++ [(q_6, .inl (cI, ((if (0 : Int32) < x_1.1 then x_1.1 else 0).toNatClampNeg), .inl z_11.2.2))] ++ [(q_8, .inl (cI, x2.toNatClampNeg, .inl z_12.2))] ++ [(q_10, .inl (cZ, x_4.toNatClampNeg, .inl z_13.2.2))])) (w1 := (wSg a cI cJ x_14.2.1 x_14.2.2.1 K x_14.2.2.2 I T)) hP hD [0, 1, 2, 3, 4, 5, 6, 7, 8, 9, 10, 11, 12, 13, 14, 15, 16, 17] [18, 19, 20, 21] rfl rfl (by decide) (by decide) hk1 hFc hP1 hD1
  generalize H1 = H at hP hS ⊢
  replace hP := hP.sub (ws' := (wSg a cI cJ x_14.2.1 x_14.2.2.1 K x_14.2.2.2 I T ++ [(adt, .inl (cI, nt, .inl ft))] ++ [(q_6, .inl (cI, ((if (0 : Int32) < x_1.1 then x_1.1 else 0).toNatClampNeg), .inl z_11.2.2))] ++ [(q_8, .inl (cI, x2.toNatClampNeg, .inl z_12.2))] ++ [(q_10, .inl (cZ, x_4.toNatClampNeg, .inl z_13.2.2))])) [4, 5, 6, 7, 8, 9, 10, 11, 12, 13, 14, 15, 16, 17, 18, 19, 20, 21, 0, 1, 2, 3] rfl
  replace hD := hD.sub (ws' := (wSg a cI cJ x_14.2.1 x_14.2.2.1 K x_14.2.2.2 I T ++ [(adt, .inl (cI, nt, .inl ft))] ++ [(q_6, .inl (cI, ((if (0 : Int32) < x_1.1 then x_1.1 else 0).toNatClampNeg), .inl z_11.2.2))] ++ [(q_8, .inl (cI, x2.toNatClampNeg, .inl z_12.2))] ++ [(q_10, .inl (cZ, x_4.toNatClampNeg, .inl z_13.2.2))])) [4, 5, 6, 7, 8, 9, 10, 11, 12, 13, 14, 15, 16, 17, 18, 19, 20, 21, 0, 1, 2, 3] (by decide) rfl
  have hP : va_P (dC, dI) vwCl (wSg a cI cJ x_14.2.1 x_14.2.2.1 K x_14.2.2.2 I T ++ [(adt, .inl (cI, nt, .inl ft))] ++ [(q_6, .inl (cI, ((if (0 : Int32) < x_1.1 then x_1.1 else 0).toNatClampNeg), .inl z_11.2.2))] ++ [(q_8, .inl (cI, x2.toNatClampNeg, .inl z_12.2))] ++ [(q_10, .inl (cZ, x_4.toNatClampNeg, .inl z_13.2.2))]) H := hP
  have hD : va_D A (wSg a cI cJ x_14.2.1 x_14.2.2.1 K x_14.2.2.2 I T ++ [(adt, .inl (cI, nt, .inl ft))] ++ [(q_6, .inl (cI, ((if (0 : Int32) < x_1.1 then x_1.1 else 0).toNatClampNeg), .inl z_11.2.2))] ++ [(q_8, .inl (cI, x2.toNatClampNeg, .inl z_12.2))] ++ [(q_10, .inl (cZ, x_4.toNatClampNeg, .inl z_13.2.2))]) := hD
  refine lv_iload hx hb dL_isShown_158 (lv_at hl 7 rfl) ?_
  refine lv_icmp_eq (tgt := 165) hx hb dL_isShown_160 (by decide) (fun c_15 => ?_) (fun c_15 => ?_)
  · replace hf := (if_pos c_15).symm.trans hf
    refine lv_iload hx hb dL_isShown_165 (lv_at hl 7 rfl) ?_
    refine lv_if_ge (tgt := 193) hx hb dL_isShown_167 (by decide) (fun c_16 => ?_) (fun c_16 => ?_)
    · replace hf := (if_pos c_16).symm.trans hf
      refine lv_aload_n hx hb dL_isShown_193 rfl (lv_at hl 8 rfl) ?_
      refine lv_bipush (v := 7) hx hb dL_isShown_194 (by decide) ?_
      obtain ⟨x_17, hx_17, hf⟩ := Option.bind_eq_some_iff.mp hf
      refine q_rV (As := [.int 7]) (rest := []) ⟨hx, hb, hml, hown, hts⟩ (c_X5_sign l dC dI cI cJ a x_14.2.1 x_14.2.2.1 K x_14.2.2.2 I T 7 x_17 hx_17) (cwV 1 hts gM_isShown_X5_sign rfl rfl rfl (by decide +kernel) ⟨Nat.le_of_ble_eq_true rfl, Nat.le_of_ble_eq_true rfl⟩) (hK.sub (tys' := q_ty cI cJ) [0, 1] rfl) hn (hP.sub (ws' := (wSg a cI cJ x_14.2.1 x_14.2.2.1 K x_14.2.2.2 I T)) [0, 1, 2, 3, 4, 5, 6, 7, 8, 9, 10, 11, 12, 13, 14, 15, 16, 17] rfl) (ci := 5) rfl rfl rfl hl.1 rfl (Nat.le_of_ble_eq_true rfl) dL_isShown_196 ⟨by show 3 ≤ 193; omega, by show 192 ≤ 7412; omega⟩ ?_
      refine lv_iload hx hb dL_isShown_199 (lv_at hl 5 rfl) ?_
      refine lv_iload hx hb dL_isShown_201 (lv_at hl 6 rfl) ?_
      refine lv_iadd hx hb dL_isShown_203 ?_
      refine lv_icmp_ne (tgt := 236) hx hb dL_isShown_204 (by decide) (fun c_18 => ?_) (fun c_18 => ?_)
      · replace hf := (if_neg c_18).symm.trans hf
        refine lv_iconst (v := 0) hx hb dL_isShown_236 (by decide) ?_
        replace hf := Option.some.inj hf
        subst hf
        have hP9 := hP.sub (ws' := (wSg a cI cJ x_14.2.1 x_14.2.2.1 K x_14.2.2.2 I T ++ [(adt, .inl (cI, nt, .inl ft))])) [0, 1, 2, 3, 4, 5, 6, 7, 8, 9, 10, 11, 12, 13, 14, 15, 16, 17, 18] rfl
        have hD9 := hD.sub (ws' := (wSg a cI cJ x_14.2.1 x_14.2.2.1 K x_14.2.2.2 I T ++ [(adt, .inl (cI, nt, .inl ft))])) [0, 1, 2, 3, 4, 5, 6, 7, 8, 9, 10, 11, 12, 13, 14, 15, 16, 17, 18] (by decide) rfl
        refine W.widen (k := 193) (n := 7412) (by omega) (by omega) ?_
        exact W.zret (v := 0) (ty := .boolean) hx hb hr rfl (fun t ht hW => ⟨⟨0, (), rfl, rfl, ⟨by rw [ht]; exact hP9, va_K.moved hW.alike hK, hD9⟩⟩, hS.F ht⟩) hS.2.2 dL_isShown_237
      · replace hf := (if_pos c_18).symm.trans hf
        refine lv_aload_n hx hb dL_isShown_207 rfl (lv_at hl 8 rfl) ?_
        refine lv_iload_n hx hb dL_isShown_208 rfl (lv_at hl 9 rfl) ?_
        refine lv_iconst (v := 3) hx hb dL_isShown_209 (by decide) ?_
        obtain ⟨x_19, hx_19, hf⟩ := Option.bind_eq_some_iff.mp hf
        have hPc := hP.sub (ws' := (wSg a cI cJ x_14.2.1 x_14.2.2.1 K x_14.2.2.2 I T)) [0, 1, 2, 3, 4, 5, 6, 7, 8, 9, 10, 11, 12, 13, 14, 15, 16, 17] rfl
        have hDc := hD.sub (ws' := (wSg a cI cJ x_14.2.1 x_14.2.2.1 K x_14.2.2.2 I T)) [0, 1, 2, 3, 4, 5, 6, 7, 8, 9, 10, 11, 12, 13, 14, 15, 16, 17] (by decide) rfl
        have hFc := va_free (wc := (wSg a cI cJ x_14.2.1 x_14.2.2.1 K x_14.2.2.2 I T)) hD hS hA [0, 1, 2, 3, 4, 5, 6, 7, 8, 9, 10, 11, 12, 13, 14, 15, 16, 17] rfl
        refine va_calli (va_runV (As := [.int x1, .int 3]) (rest := []) ⟨hx, hb, hml, hown, hts⟩ (c_X5_ofLine l dC dI cI cJ a H.size x_14.2.1 x_14.2.2.1 K x_14.2.2.2 I T x1 3 x_19 hx_19) (cwV 2 hts gM_isShown_X5_ofLine rfl rfl rfl (by decide +kernel) ⟨Nat.le_of_ble_eq_true rfl, Nat.le_of_ble_eq_true rfl⟩) ⟨q_Wblind, va_recv (hK.sub (tys' := q_ty cI cJ) [0, 1] rfl) hPc (ci := 5) (q0 := 0) rfl rfl, q_Wpre hPc (hK.sub (tys' := q_ty cI cJ) [0, 1] rfl) hn hDc⟩ rfl rfl hl.1 rfl (lv_room (Nat.le_of_ble_eq_true rfl)) dL_isShown_210 ⟨by show 3 + 0 ≤ 193; omega, by show 192 + 0 ≤ 7412; omega⟩) hS (fun q _ h => hFc q h) hFc (fun r_9 u t H1 locs ht hvm hw hB hz1 hk1 hS => ?_)
        subst hw
        obtain ⟨hP1, hK1, hD1⟩ := hB
        rw [ht] at hP1
        obtain ⟨hP, hD⟩ := va_join (wr := ([(adt, .inl (cI, nt, .inl ft))] ++ [(q_6, .inl (cI, ((if (0 : Int32) < x_1.1 then x_1.1 else 0).toNatClampNeg), .inl z_11.2.2))] ++ [(q_8, .inl (cI, x2.toNatClampNeg, .inl z_12.2))] ++ [(q_10, .inl (cZ, x_4.toNatClampNeg, .inl z_13.2.2))])) (w1 := (wSg a cI cJ x_14.2.1 x_14.2.2.1 K x_19.2 I T)) hP hD [0, 1, 2, 3, 4, 5, 6, 7, 8, 9, 10, 11, 12, 13, 14, 15, 16, 17] [18, 19, 20, 21] rfl rfl (by decide) (by decide) hk1 hFc hP1 hD1
        generalize H1 = H at hP hS ⊢
        replace hP := hP.sub (ws' := (wSg a cI cJ x_14.2.1 x_14.2.2.1 K x_19.2 I T ++ [(adt, .inl (cI, nt, .inl ft))] ++ [(q_6, .inl (cI, ((if (0 : Int32) < x_1.1 then x_1.1 else 0).toNatClampNeg), .inl z_11.2.2))] ++ [(q_8, .inl (cI, x2.toNatClampNeg, .inl z_12.2))] ++ [(q_10, .inl (cZ, x_4.toNatClampNeg, .inl z_13.2.2))])) [4, 5, 6, 7, 8, 9, 10, 11, 12, 13, 14, 15, 16, 17, 18, 19, 20, 21, 0, 1, 2, 3] rfl
        replace hD := hD.sub (ws' := (wSg a cI cJ x_14.2.1 x_14.2.2.1 K x_19.2 I T ++ [(adt, .inl (cI, nt, .inl ft))] ++ [(q_6, .inl (cI, ((if (0 : Int32) < x_1.1 then x_1.1 else 0).toNatClampNeg), .inl z_11.2.2))] ++ [(q_8, .inl (cI, x2.toNatClampNeg, .inl z_12.2))] ++ [(q_10, .inl (cZ, x_4.toNatClampNeg, .inl z_13.2.2))])) [4, 5, 6, 7, 8, 9, 10, 11, 12, 13, 14, 15, 16, 17, 18, 19, 20, 21, 0, 1, 2, 3] (by decide) rfl
        have hP : va_P (dC, dI) vwCl (wSg a cI cJ x_14.2.1 x_14.2.2.1 K x_19.2 I T ++ [(adt, .inl (cI, nt, .inl ft))] ++ [(q_6, .inl (cI, ((if (0 : Int32) < x_1.1 then x_1.1 else 0).toNatClampNeg), .inl z_11.2.2))] ++ [(q_8, .inl (cI, x2.toNatClampNeg, .inl z_12.2))] ++ [(q_10, .inl (cZ, x_4.toNatClampNeg, .inl z_13.2.2))]) H := hP
        have hD : va_D A (wSg a cI cJ x_14.2.1 x_14.2.2.1 K x_19.2 I T ++ [(adt, .inl (cI, nt, .inl ft))] ++ [(q_6, .inl (cI, ((if (0 : Int32) < x_1.1 then x_1.1 else 0).toNatClampNeg), .inl z_11.2.2))] ++ [(q_8, .inl (cI, x2.toNatClampNeg, .inl z_12.2))] ++ [(q_10, .inl (cZ, x_4.toNatClampNeg, .inl z_13.2.2))]) := hD
        refine lv_if_ne (tgt := 226) hx hb dL_isShown_213 (by decide) (fun c_20 => ?_) (fun c_20 => ?_)
        · replace hf := (if_neg c_20).symm.trans hf
          refine lv_aload_n hx hb dL_isShown_226 rfl (lv_at hl 8 rfl) ?_
          refine lv_iload_n hx hb dL_isShown_227 rfl (lv_at hl 9 rfl) ?_
          refine lv_bipush (v := 6) hx hb dL_isShown_228 (by decide) ?_
          obtain ⟨x_21, hx_21, hf⟩ := Option.bind_eq_some_iff.mp hf
          have hPc := hP.sub (ws' := (wSg a cI cJ x_14.2.1 x_14.2.2.1 K x_19.2 I T)) [0, 1, 2, 3, 4, 5, 6, 7, 8, 9, 10, 11, 12, 13, 14, 15, 16, 17] rfl
          have hDc := hD.sub (ws' := (wSg a cI cJ x_14.2.1 x_14.2.2.1 K x_19.2 I T)) [0, 1, 2, 3, 4, 5, 6, 7, 8, 9, 10, 11, 12, 13, 14, 15, 16, 17] (by decide) rfl
          have hFc := va_free (wc := (wSg a cI cJ x_14.2.1 x_14.2.2.1 K x_19.2 I T)) hD hS hA [0, 1, 2, 3, 4, 5, 6, 7, 8, 9, 10, 11, 12, 13, 14, 15, 16, 17] rfl
          refine va_calli (va_runV (As := [.int x1, .int 6]) (rest := []) ⟨hx, hb, hml, hown, hts⟩ (c_X5_ofLine l dC dI cI cJ a H.size x_14.2.1 x_14.2.2.1 K x_19.2 I T x1 6 x_21 hx_21) (cwV 2 hts gM_isShown_X5_ofLine rfl rfl rfl (by decide +kernel) ⟨Nat.le_of_ble_eq_true rfl, Nat.le_of_ble_eq_true rfl⟩) ⟨q_Wblind, va_recv (hK.sub (tys' := q_ty cI cJ) [0, 1] rfl) hPc (ci := 5) (q0 := 0) rfl rfl, q_Wpre hPc (hK.sub (tys' := q_ty cI cJ) [0, 1] rfl) hn hDc⟩ rfl rfl hl.1 rfl (lv_room (Nat.le_of_ble_eq_true rfl)) dL_isShown_230 ⟨by show 3 + 0 ≤ 193; omega, by show 192 + 0 ≤ 7412; omega⟩) hS (fun q _ h => hFc q h) hFc (fun r_9 u t H1 locs ht hvm hw hB hz1 hk1 hS => ?_)
          subst hw
          obtain ⟨hP1, hK1, hD1⟩ := hB
          rw [ht] at hP1
          obtain ⟨hP, hD⟩ := va_join (wr := ([(adt, .inl (cI, nt, .inl ft))] ++ [(q_6, .inl (cI, ((if (0 : Int32) < x_1.1 then x_1.1 else 0).toNatClampNeg), .inl z_11.2.2))] ++ [(q_8, .inl (cI, x2.toNatClampNeg, .inl z_12.2))] ++ [(q_10, .inl (cZ, x_4.toNatClampNeg, .inl z_13.2.2))])) (w1 := (wSg a cI cJ x_14.2.1 x_14.2.2.1 K x_21.2 I T)) hP hD [0, 1, 2, 3, 4, 5, 6, 7, 8, 9, 10, 11, 12, 13, 14, 15, 16, 17] [18, 19, 20, 21] rfl rfl (by decide) (by decide) hk1 hFc hP1 hD1
          generalize H1 = H at hP hS ⊢
          replace hP := hP.sub (ws' := (wSg a cI cJ x_14.2.1 x_14.2.2.1 K x_21.2 I T ++ [(adt, .inl (cI, nt, .inl ft))] ++ [(q_6, .inl (cI, ((if (0 : Int32) < x_1.1 then x_1.1 else 0).toNatClampNeg), .inl z_11.2.2))] ++ [(q_8, .inl (cI, x2.toNatClampNeg, .inl z_12.2))] ++ [(q_10, .inl (cZ, x_4.toNatClampNeg, .inl z_13.2.2))])) [4, 5, 6, 7, 8, 9, 10, 11, 12, 13, 14, 15, 16, 17, 18, 19, 20, 21, 0, 1, 2, 3] rfl
          replace hD := hD.sub (ws' := (wSg a cI cJ x_14.2.1 x_14.2.2.1 K x_21.2 I T ++ [(adt, .inl (cI, nt, .inl ft))] ++ [(q_6, .inl (cI, ((if (0 : Int32) < x_1.1 then x_1.1 else 0).toNatClampNeg), .inl z_11.2.2))] ++ [(q_8, .inl (cI, x2.toNatClampNeg, .inl z_12.2))] ++ [(q_10, .inl (cZ, x_4.toNatClampNeg, .inl z_13.2.2))])) [4, 5, 6, 7, 8, 9, 10, 11, 12, 13, 14, 15, 16, 17, 18, 19, 20, 21, 0, 1, 2, 3] (by decide) rfl
          have hP : va_P (dC, dI) vwCl (wSg a cI cJ x_14.2.1 x_14.2.2.1 K x_21.2 I T ++ [(adt, .inl (cI, nt, .inl ft))] ++ [(q_6, .inl (cI, ((if (0 : Int32) < x_1.1 then x_1.1 else 0).toNatClampNeg), .inl z_11.2.2))] ++ [(q_8, .inl (cI, x2.toNatClampNeg, .inl z_12.2))] ++ [(q_10, .inl (cZ, x_4.toNatClampNeg, .inl z_13.2.2))]) H := hP
          have hD : va_D A (wSg a cI cJ x_14.2.1 x_14.2.2.1 K x_21.2 I T ++ [(adt, .inl (cI, nt, .inl ft))] ++ [(q_6, .inl (cI, ((if (0 : Int32) < x_1.1 then x_1.1 else 0).toNatClampNeg), .inl z_11.2.2))] ++ [(q_8, .inl (cI, x2.toNatClampNeg, .inl z_12.2))] ++ [(q_10, .inl (cZ, x_4.toNatClampNeg, .inl z_13.2.2))]) := hD
          refine lv_if_eq (tgt := 238) hx hb dL_isShown_233 (by decide) (fun c_22 => ?_) (fun c_22 => ?_)
          · replace hf := (if_pos c_22).symm.trans hf
            refine lv_iconst (v := 0) hx hb dL_isShown_238 (by decide) ?_
            refine lv_istore (lv' := [(11, .int 0), (10, .ref q_10), (9, .ref q_8), (8, .ref q_6), (7, .int x_4), (6, .int x_3), (5, .int x_2.1), (4, .int x_1.1), (0, .ref (a 0)), (1, .int x1), (2, .int x2), (3, .ref adt)]) hx hb dL_isShown_239 hl (by decide) rfl (fun ls hl => ?_)
            refine lv_iconst (v := 0) hx hb dL_isShown_241 (by decide) ?_
            refine lv_istore (lv' := [(12, .int 0), (11, .int 0), (10, .ref q_10), (9, .ref q_8), (8, .ref q_6), (7, .int x_4), (6, .int x_3), (5, .int x_2.1), (4, .int x_1.1), (0, .ref (a 0)), (1, .int x1), (2, .int x2), (3, .ref adt)]) hx hb dL_isShown_242 hl (by decide) rfl (fun ls hl => ?_)
            have L_244 : ∀ (nn : Nat) (i11_244 : Int32) (i12_244 : Int32) (N_244 : q_Pl) (kc_244 ks_244 : Nat) (H : Heap) (locs : List Loc) (ls : Array Slot) (z_244 : ((Int32 × q_Fl × q_Bd × q_Pl) ⊕ (Int32 × Int32 × q_Pl))), lv_has ls 15 [(12, .int i12_244), (11, .int i11_244), (10, .ref q_10), (9, .ref q_8), (8, .ref q_6), (7, .int x_4), (6, .int x_3), (5, .int x_2.1), (4, .int x_1.1), (0, .ref (a 0)), (1, .int x1), (2, .int x2), (3, .ref adt)] → kc_244 + nn * 19 ≤ 193 → ks_244 + nn * 722 ≤ 7412 → va_P (dC, dI) vwCl (wSg a cI cJ x_14.2.1 x_14.2.2.1 K N_244 I T ++ [(adt, .inl (cI, nt, .inl ft))] ++ [(q_6, .inl (cI, ((if (0 : Int32) < x_1.1 then x_1.1 else 0).toNatClampNeg), .inl z_11.2.2))] ++ [(q_8, .inl (cI, x2.toNatClampNeg, .inl z_12.2))] ++ [(q_10, .inl (cZ, x_4.toNatClampNeg, .inl z_13.2.2))]) H → va_D A (wSg a cI cJ x_14.2.1 x_14.2.2.1 K N_244 I T ++ [(adt, .inl (cI, nt, .inl ft))] ++ [(q_6, .inl (cI, ((if (0 : Int32) < x_1.1 then x_1.1 else 0).toNatClampNeg), .inl z_11.2.2))] ++ [(q_8, .inl (cI, x2.toNatClampNeg, .inl z_12.2))] ++ [(q_10, .inl (cZ, x_4.toNatClampNeg, .inl z_13.2.2))]) → va_S A s.heap H locs → fl_L_isShown_244 x2 K I T nt ft x_1 x_4 z_11 z_12 z_13 x_14 nn i11_244 i12_244 N_244 = some z_244 → (∀ r_ : Int32 × q_Fl × q_Bd × q_Pl, z_244 = .inl r_ → r_ = r0) → (∀ (y : Int32 × Int32 × q_Pl) (H : Heap) (locs : List Loc) (ls : Array Slot), z_244 = .inr y → lv_has ls 15 [(12, .int y.2.1), (11, .int y.1), (10, .ref q_10), (9, .ref q_8), (8, .ref q_6), (7, .int x_4), (6, .int x_3), (5, .int x_2.1), (4, .int x_1.1), (0, .ref (a 0)), (1, .int x1), (2, .int x2), (3, .ref adt)] → va_P (dC, dI) vwCl (wSg a cI cJ x_14.2.1 x_14.2.2.1 K y.2.2 I T ++ [(adt, .inl (cI, nt, .inl ft))] ++ [(q_6, .inl (cI, ((if (0 : Int32) < x_1.1 then x_1.1 else 0).toNatClampNeg), .inl z_11.2.2))] ++ [(q_8, .inl (cI, x2.toNatClampNeg, .inl z_12.2))] ++ [(q_10, .inl (cZ, x_4.toNatClampNeg, .inl z_13.2.2))]) H → va_D A (wSg a cI cJ x_14.2.1 x_14.2.2.1 K y.2.2 I T ++ [(adt, .inl (cI, nt, .inl ft))] ++ [(q_6, .inl (cI, ((if (0 : Int32) < x_1.1 then x_1.1 else 0).toNatClampNeg), .inl z_11.2.2))] ++ [(q_8, .inl (cI, x2.toNatClampNeg, .inl z_12.2))] ++ [(q_10, .inl (cZ, x_4.toNatClampNeg, .inl z_13.2.2))]) → va_S A s.heap H locs → W p l e (headSpec wsM_isShown ({ frames := 7, cells := 193, slots := 7412, locals := 161 } : Room)).room s m [.ref (a 0), .int x1, .int x2, .ref adt].toArray below meth c H locs 193 7412 (MQ below (va_Qi (S := Unit) (fun r_ _ => r_ = r0.1) (fun _ => q_E (dC, dI) vwCl (wSg a cI cJ r0.2.1 r0.2.2.1 K r0.2.2.2 I T ++ [(adt, .inl (cI, nt, .inl ft))]) (q_ty3 cI cJ cZ) A) A) [.ref (a 0), .int x1, .int x2, .ref adt].toArray s 193 7412 A) (F0 m 416 ls [])) → W p l e (headSpec wsM_isShown ({ frames := 7, cells := 193, slots := 7412, locals := 161 } : Room)).room s m [.ref (a 0), .int x1, .int x2, .ref adt].toArray below meth c H locs kc_244 ks_244 (MQ below (va_Qi (S := Unit) (fun r_ _ => r_ = r0.1) (fun _ => q_E (dC, dI) vwCl (wSg a cI cJ r0.2.1 r0.2.2.1 K r0.2.2.2 I T ++ [(adt, .inl (cI, nt, .inl ft))]) (q_ty3 cI cJ cZ) A) A) [.ref (a 0), .int x1, .int x2, .ref adt].toArray s 193 7412 A) (F0 m 244 ls []) := by
              intro nn
              induction nn with
              | zero =>
                intro i11_244 i12_244 N_244 kc_244 ks_244 H locs ls z_244 hl hkc_244 hks_244 hP hD hS hf hret_244 hex_244
                rw [fl_L_isShown_244] at hf
                cases hf
              | succ nn ih =>
                intro i11_244 i12_244 N_244 kc_244 ks_244 H locs ls z_244 hl hkc_244 hks_244 hP hD hS hf hret_244 hex_244
                rw [fl_L_isShown_244] at hf
                refine lv_iload hx hb dL_isShown_244 (lv_at hl 0 rfl) ?_
                refine lv_iload hx hb dL_isShown_246 (lv_at hl 8 rfl) ?_
                refine lv_icmp_ge (tgt := 416) hx hb dL_isShown_248 (by decide) (fun c_244001 => ?_) (fun c_244001 => ?_)
                · replace hf := (if_pos c_244001).symm.trans hf
                  refine W.widen (k := 193) (n := 7412) (by omega) (by omega) ?_
                  exact hex_244 (i11_244, i12_244, N_244) H locs ls (Option.some.inj hf).symm (lv_sub hl [0, 1, 2, 3, 4, 5, 6, 7, 8, 9, 10, 11, 12] rfl) hP hD hS
                · replace hf := (if_neg c_244001).symm.trans hf
                  refine lv_aload hx hb dL_isShown_251 (lv_at hl 4 rfl) ?_
                  refine lv_iload hx hb dL_isShown_253 (lv_at hl 0 rfl) ?_
                  by_cases nc_244002 : ¬ q_ix i12_244 (if (0 : Int32) < x_1.1 then x_1.1 else 0).toNatClampNeg = true
                  · replace hf := (if_neg nc_244002).symm.trans hf
                    cases hf
                  have c_244002 := Classical.not_not.mp nc_244002
                  replace hf := (if_pos c_244002).symm.trans hf
                  refine va_iald hx hb hK hP 19 0 rfl rfl (q_ix_in c_244002) dL_isShown_255 ?_
                  refine lv_if_le (tgt := 270) hx hb dL_isShown_256 (by decide) (fun c_244003 => ?_) (fun c_244003 => ?_)
                  · replace hf := (if_pos c_244003).symm.trans hf
                    refine lv_iconst (v := 0) hx hb dL_isShown_270 (by decide) ?_
                    replace hf := hret_244 (0, x_14.2.1, x_14.2.2.1, N_244) (Option.some.inj hf).symm
                    subst hf
                    have hP9 := hP.sub (ws' := (wSg a cI cJ x_14.2.1 x_14.2.2.1 K N_244 I T ++ [(adt, .inl (cI, nt, .inl ft))])) [0, 1, 2, 3, 4, 5, 6, 7, 8, 9, 10, 11, 12, 13, 14, 15, 16, 17, 18] rfl
                    have hD9 := hD.sub (ws' := (wSg a cI cJ x_14.2.1 x_14.2.2.1 K N_244 I T ++ [(adt, .inl (cI, nt, .inl ft))])) [0, 1, 2, 3, 4, 5, 6, 7, 8, 9, 10, 11, 12, 13, 14, 15, 16, 17, 18] (by decide) rfl
                    refine W.widen (k := 193) (n := 7412) (by omega) (by omega) ?_
                    exact W.zret (v := 0) (ty := .boolean) hx hb hr rfl (fun t ht hW => ⟨⟨0, (), rfl, rfl, ⟨by rw [ht]; exact hP9, va_K.moved hW.alike hK, hD9⟩⟩, hS.F ht⟩) hS.2.2 dL_isShown_271
                  · replace hf := (if_neg c_244003).symm.trans hf
                    refine lv_aload hx hb dL_isShown_259 (lv_at hl 4 rfl) ?_
                    refine lv_iload hx hb dL_isShown_261 (lv_at hl 0 rfl) ?_
                    refine va_iald hx hb hK hP 19 0 rfl rfl (q_ix_in c_244002) dL_isShown_263 ?_
                    refine lv_iload hx hb dL_isShown_264 (lv_at hl 1 rfl) ?_
                    refine lv_iand hx hb dL_isShown_266 ?_
                    refine lv_if_eq (tgt := 272) hx hb dL_isShown_267 (by decide) (fun c_244004 => ?_) (fun c_244004 => ?_)
                    · replace hf := (if_pos c_244004).symm.trans hf
                      refine lv_iload hx hb dL_isShown_272 (lv_at hl 1 rfl) ?_
                      refine lv_aload hx hb dL_isShown_274 (lv_at hl 4 rfl) ?_
                      refine lv_iload hx hb dL_isShown_276 (lv_at hl 0 rfl) ?_
                      refine va_iald hx hb hK hP 19 0 rfl rfl (q_ix_in c_244002) dL_isShown_278 ?_
                      refine lv_ior hx hb dL_isShown_279 ?_
                      refine lv_istore (lv' := [(11, .int (i11_244 ||| (z_11.2.2 i12_244.toNatClampNeg))), (12, .int i12_244), (10, .ref q_10), (9, .ref q_8), (8, .ref q_6), (7, .int x_4), (6, .int x_3), (5, .int x_2.1), (4, .int x_1.1), (0, .ref (a 0)), (1, .int x1), (2, .int x2), (3, .ref adt)]) hx hb dL_isShown_280 hl (by decide) rfl (fun ls hl => ?_)
                      refine lv_iconst (v := 0) hx hb dL_isShown_282 (by decide) ?_
                      refine lv_istore (lv' := [(13, .int 0), (11, .int (i11_244 ||| (z_11.2.2 i12_244.toNatClampNeg))), (12, .int i12_244), (10, .ref q_10), (9, .ref q_8), (8, .ref q_6), (7, .int x_4), (6, .int x_3), (5, .int x_2.1), (4, .int x_1.1), (0, .ref (a 0)), (1, .int x1), (2, .int x2), (3, .ref adt)]) hx hb dL_isShown_283 hl (by decide) rfl (fun ls hl => ?_)
                      have L_285 : ∀ (nn : Nat) (i13_285 : Int32) (H : Heap) (locs : List Loc) (ls : Array Slot) (z_285 : ((Int32 × q_Fl × q_Bd × q_Pl) ⊕ (Int32))), lv_has ls 15 [(13, .int i13_285), (11, .int (i11_244 ||| (z_11.2.2 i12_244.toNatClampNeg))), (12, .int i12_244), (10, .ref q_10), (9, .ref q_8), (8, .ref q_6), (7, .int x_4), (6, .int x_3), (5, .int x_2.1), (4, .int x_1.1), (0, .ref (a 0)), (1, .int x1), (2, .int x2), (3, .ref adt)] → va_P (dC, dI) vwCl (wSg a cI cJ x_14.2.1 x_14.2.2.1 K N_244 I T ++ [(adt, .inl (cI, nt, .inl ft))] ++ [(q_6, .inl (cI, ((if (0 : Int32) < x_1.1 then x_1.1 else 0).toNatClampNeg), .inl z_11.2.2))] ++ [(q_8, .inl (cI, x2.toNatClampNeg, .inl z_12.2))] ++ [(q_10, .inl (cZ, x_4.toNatClampNeg, .inl z_13.2.2))]) H → va_D A (wSg a cI cJ x_14.2.1 x_14.2.2.1 K N_244 I T ++ [(adt, .inl (cI, nt, .inl ft))] ++ [(q_6, .inl (cI, ((if (0 : Int32) < x_1.1 then x_1.1 else 0).toNatClampNeg), .inl z_11.2.2))] ++ [(q_8, .inl (cI, x2.toNatClampNeg, .inl z_12.2))] ++ [(q_10, .inl (cZ, x_4.toNatClampNeg, .inl z_13.2.2))]) → va_S A s.heap H locs → fl_L_isShown_285 x2 x_1 z_11 z_12 x_14 i11_244 i12_244 N_244 nn i13_285 = some z_285 → (∀ r_ : Int32 × q_Fl × q_Bd × q_Pl, z_285 = .inl r_ → r_ = r0) → (∀ (y : Int32) (H : Heap) (locs : List Loc) (ls : Array Slot), z_285 = .inr y → lv_has ls 15 [(13, .int y), (11, .int (i11_244 ||| (z_11.2.2 i12_244.toNatClampNeg))), (12, .int i12_244), (10, .ref q_10), (9, .ref q_8), (8, .ref q_6), (7, .int x_4), (6, .int x_3), (5, .int x_2.1), (4, .int x_1.1), (0, .ref (a 0)), (1, .int x1), (2, .int x2), (3, .ref adt)] → va_P (dC, dI) vwCl (wSg a cI cJ x_14.2.1 x_14.2.2.1 K N_244 I T ++ [(adt, .inl (cI, nt, .inl ft))] ++ [(q_6, .inl (cI, ((if (0 : Int32) < x_1.1 then x_1.1 else 0).toNatClampNeg), .inl z_11.2.2))] ++ [(q_8, .inl (cI, x2.toNatClampNeg, .inl z_12.2))] ++ [(q_10, .inl (cZ, x_4.toNatClampNeg, .inl z_13.2.2))]) H → va_D A (wSg a cI cJ x_14.2.1 x_14.2.2.1 K N_244 I T ++ [(adt, .inl (cI, nt, .inl ft))] ++ [(q_6, .inl (cI, ((if (0 : Int32) < x_1.1 then x_1.1 else 0).toNatClampNeg), .inl z_11.2.2))] ++ [(q_8, .inl (cI, x2.toNatClampNeg, .inl z_12.2))] ++ [(q_10, .inl (cZ, x_4.toNatClampNeg, .inl z_13.2.2))]) → va_S A s.heap H locs → W p l e (headSpec wsM_isShown ({ frames := 7, cells := 193, slots := 7412, locals := 161 } : Room)).room s m [.ref (a 0), .int x1, .int x2, .ref adt].toArray below meth c H locs kc_244 ks_244 (MQ below (va_Qi (S := Unit) (fun r_ _ => r_ = r0.1) (fun _ => q_E (dC, dI) vwCl (wSg a cI cJ r0.2.1 r0.2.2.1 K r0.2.2.2 I T ++ [(adt, .inl (cI, nt, .inl ft))]) (q_ty3 cI cJ cZ) A) A) [.ref (a 0), .int x1, .int x2, .ref adt].toArray s 193 7412 A) (F0 m 333 ls [])) → W p l e (headSpec wsM_isShown ({ frames := 7, cells := 193, slots := 7412, locals := 161 } : Room)).room s m [.ref (a 0), .int x1, .int x2, .ref adt].toArray below meth c H locs kc_244 ks_244 (MQ below (va_Qi (S := Unit) (fun r_ _ => r_ = r0.1) (fun _ => q_E (dC, dI) vwCl (wSg a cI cJ r0.2.1 r0.2.2.1 K r0.2.2.2 I T ++ [(adt, .inl (cI, nt, .inl ft))]) (q_ty3 cI cJ cZ) A) A) [.ref (a 0), .int x1, .int x2, .ref adt].toArray s 193 7412 A) (F0 m 285 ls []) := by
                        intro nn
                        induction nn with
                        | zero =>
                          intro i13_285 H locs ls z_285 hl hP hD hS hf hret_285 hex_285
                          rw [fl_L_isShown_285] at hf
                          cases hf
                        | succ nn ih =>
                          intro i13_285 H locs ls z_285 hl hP hD hS hf hret_285 hex_285
                          rw [fl_L_isShown_285] at hf
                          refine lv_iload hx hb dL_isShown_285 (lv_at hl 0 rfl) ?_
                          refine lv_iload_n hx hb dL_isShown_287 rfl (lv_at hl 12 rfl) ?_
                          refine lv_icmp_ge (tgt := 333) hx hb dL_isShown_288 (by decide) (fun c_285001 => ?_) (fun c_285001 => ?_)
                          · replace hf := (if_pos c_285001).symm.trans hf
                            exact hex_285 i13_285 H locs ls (Option.some.inj hf).symm (lv_sub hl [0, 1, 2, 3, 4, 5, 6, 7, 8, 9, 10, 11, 12, 13] rfl) hP hD hS
                          · replace hf := (if_neg c_285001).symm.trans hf
                            refine lv_iload hx hb dL_isShown_291 (lv_at hl 2 rfl) ?_
                            refine lv_iload hx hb dL_isShown_293 (lv_at hl 9 rfl) ?_
                            refine lv_iconst (v := 1) hx hb dL_isShown_295 (by decide) ?_
                            refine lv_isub hx hb dL_isShown_296 ?_
                            refine lv_icmp_ne (tgt := 333) hx hb dL_isShown_297 (by decide) (fun c_285002 => ?_) (fun c_285002 => ?_)
                            · replace hf := (if_neg c_285002).symm.trans hf
                              exact hex_285 i13_285 H locs ls (Option.some.inj hf).symm (lv_sub hl [0, 1, 2, 3, 4, 5, 6, 7, 8, 9, 10, 11, 12, 13] rfl) hP hD hS
                            · replace hf := (if_pos c_285002).symm.trans hf
                              refine lv_iload hx hb dL_isShown_300 (lv_at hl 1 rfl) ?_
                              refine lv_iload hx hb dL_isShown_302 (lv_at hl 0 rfl) ?_
                              refine lv_ishr hx hb dL_isShown_304 ?_
                              refine lv_iconst (v := 1) hx hb dL_isShown_305 (by decide) ?_
                              refine lv_iand hx hb dL_isShown_306 ?_
                              refine lv_if_ne (tgt := 327) hx hb dL_isShown_307 (by decide) (fun c_285003 => ?_) (fun c_285003 => ?_)
                              · replace hf := (if_neg c_285003).symm.trans hf
                                refine lv_iinc (v := i13_285 + 1) (lv' := [(13, .int (i13_285 + 1)), (11, .int (i11_244 ||| (z_11.2.2 i12_244.toNatClampNeg))), (12, .int i12_244), (10, .ref q_10), (9, .ref q_8), (8, .ref q_6), (7, .int x_4), (6, .int x_3), (5, .int x_2.1), (4, .int x_1.1), (0, .ref (a 0)), (1, .int x1), (2, .int x2), (3, .ref adt)]) hx hb dL_isShown_327 hl (k := 0) rfl rfl (by decide) rfl (fun ls hl => ?_)
                                refine lv_goto (tgt := 285) hx hb dL_isShown_330 (by decide) ?_
                                exact ih (i13_285 + 1) H locs ls _ (lv_sub hl [0, 1, 2, 3, 4, 5, 6, 7, 8, 9, 10, 11, 12, 13] rfl) hP hD hS hf hret_285 hex_285
                              · replace hf := (if_pos c_285003).symm.trans hf
                                refine lv_aload_n hx hb dL_isShown_310 rfl (lv_at hl 10 rfl) ?_
                                refine lv_iload hx hb dL_isShown_311 (lv_at hl 0 rfl) ?_
                                refine lv_iconst (v := 0) hx hb dL_isShown_313 (by decide) ?_
                                obtain ⟨x_285004, hx_285004, hf⟩ := Option.bind_eq_some_iff.mp hf
                                refine q_rV (As := [.int i13_285, .int 0]) (rest := []) ⟨hx, hb, hml, hown, hts⟩ (c_X5_column l dC dI cI cJ a x_14.2.1 x_14.2.2.1 K N_244 I T i13_285 0 x_285004 hx_285004) (cwV 2 hts gM_isShown_X5_column rfl rfl rfl (by decide +kernel) ⟨Nat.le_of_ble_eq_true rfl, Nat.le_of_ble_eq_true rfl⟩) (hK.sub (tys' := q_ty cI cJ) [0, 1] rfl) hn (hP.sub (ws' := (wSg a cI cJ x_14.2.1 x_14.2.2.1 K N_244 I T)) [0, 1, 2, 3, 4, 5, 6, 7, 8, 9, 10, 11, 12, 13, 14, 15, 16, 17] rfl) (ci := 5) rfl rfl rfl hl.1 rfl (Nat.le_of_ble_eq_true rfl) dL_isShown_314 ⟨by show kc_244 ≤ 193; omega, by show ks_244 ≤ 7412; omega⟩ ?_
                                refine lv_aload hx hb dL_isShown_317 (lv_at hl 4 rfl) ?_
                                refine lv_iload hx hb dL_isShown_319 (lv_at hl 0 rfl) ?_
                                by_cases nc_285005 : ¬ q_ix i13_285 x2.toNatClampNeg = true
                                · replace hf := (if_neg nc_285005).symm.trans hf
                                  cases hf
                                have c_285005 := Classical.not_not.mp nc_285005
                                replace hf := (if_pos c_285005).symm.trans hf
                                refine va_iald hx hb hK hP 20 0 rfl rfl (q_ix_in c_285005) dL_isShown_321 ?_
                                refine lv_icmp_eq (tgt := 327) hx hb dL_isShown_322 (by decide) (fun c_285006 => ?_) (fun c_285006 => ?_)
                                · replace hf := (if_pos c_285006).symm.trans hf
                                  refine lv_iinc (v := i13_285 + 1) (lv' := [(13, .int (i13_285 + 1)), (11, .int (i11_244 ||| (z_11.2.2 i12_244.toNatClampNeg))), (12, .int i12_244), (10, .ref q_10), (9, .ref q_8), (8, .ref q_6), (7, .int x_4), (6, .int x_3), (5, .int x_2.1), (4, .int x_1.1), (0, .ref (a 0)), (1, .int x1), (2, .int x2), (3, .ref adt)]) hx hb dL_isShown_327 hl (k := 0) rfl rfl (by decide) rfl (fun ls hl => ?_)
                                  refine lv_goto (tgt := 285) hx hb dL_isShown_330 (by decide) ?_
                                  exact ih (i13_285 + 1) H locs ls _ (lv_sub hl [0, 1, 2, 3, 4, 5, 6, 7, 8, 9, 10, 11, 12, 13] rfl) hP hD hS hf hret_285 hex_285
                                · replace hf := (if_neg c_285006).symm.trans hf
                                  refine lv_iconst (v := 0) hx hb dL_isShown_325 (by decide) ?_
                                  replace hf := hret_285 (0, x_14.2.1, x_14.2.2.1, N_244) (Option.some.inj hf).symm
                                  subst hf
                                  have hP9 := hP.sub (ws' := (wSg a cI cJ x_14.2.1 x_14.2.2.1 K N_244 I T ++ [(adt, .inl (cI, nt, .inl ft))])) [0, 1, 2, 3, 4, 5, 6, 7, 8, 9, 10, 11, 12, 13, 14, 15, 16, 17, 18] rfl
                                  have hD9 := hD.sub (ws' := (wSg a cI cJ x_14.2.1 x_14.2.2.1 K N_244 I T ++ [(adt, .inl (cI, nt, .inl ft))])) [0, 1, 2, 3, 4, 5, 6, 7, 8, 9, 10, 11, 12, 13, 14, 15, 16, 17, 18] (by decide) rfl
                                  refine W.widen (k := 193) (n := 7412) (by omega) (by omega) ?_
                                  exact W.zret (v := 0) (ty := .boolean) hx hb hr rfl (fun t ht hW => ⟨⟨0, (), rfl, rfl, ⟨by rw [ht]; exact hP9, va_K.moved hW.alike hK, hD9⟩⟩, hS.F ht⟩) hS.2.2 dL_isShown_326
                      obtain ⟨z_244005, hz_244005, hf⟩ := Option.bind_eq_some_iff.mp hf
                      refine L_285 1000 0 H locs ls z_244005 (lv_sub hl [0, 1, 2, 3, 4, 5, 6, 7, 8, 9, 10, 11, 12, 13] rfl) hP hD hS hz_244005 (fun r_ hz => by rw [hz] at hf; exact hret_244 r_ (Option.some.inj hf).symm) (fun y_244006 H locs ls hz hl hP hD hS => ?_)
                      subst hz
                      simp only [Sum.elim_inr] at hf
                      refine lv_iload hx hb dL_isShown_333 (lv_at hl 2 rfl) ?_
                      refine lv_iload hx hb dL_isShown_335 (lv_at hl 9 rfl) ?_
                      refine lv_iconst (v := 1) hx hb dL_isShown_337 (by decide) ?_
                      refine lv_isub hx hb dL_isShown_338 ?_
                      refine lv_icmp_ne (tgt := 345) hx hb dL_isShown_339 (by decide) (fun c_244007 => ?_) (fun c_244007 => ?_)
                      · replace hf := (if_neg c_244007).symm.trans hf
                        refine lv_iload_n hx hb dL_isShown_345 rfl (lv_at hl 12 rfl) ?_
                        by_cases nc_244008 : ¬ q_ix x2 65 = true
                        · replace hf := (if_neg nc_244008).symm.trans hf
                          cases hf
                        have c_244008 := Classical.not_not.mp nc_244008
                        replace hf := (if_pos c_244008).symm.trans hf
                        have kc_244008 := q_ixlt c_244008
                        refine va_newa (atype := .int) (ty := .int) (a0 := (x2.toNatClampNeg, .inl (fun _ => 0))) (N' := x2.toNatClampNeg) hx hb (hts (.arrayClass .int) (by decide +kernel)) rfl hK hP hD hS hA (fun _ => rfl) kc_244008.1 rfl (by show x2.toNatClampNeg * 4 ≤ 536870912; omega) (by show kc_244 + 1 ≤ 193; omega) (by show ks_244 + x2.toNatClampNeg ≤ 7412; omega) dL_isShown_346 (fun q_244009 cN H hK2 hP hD hS => ?_)
                        obtain rfl := q_sameI3 hK2
                        refine W.widen (k := kc_244 + 1) (n := ks_244 + 64) (by omega) (by omega) ?_
                        have hP : va_P (dC, dI) vwCl (wSg a cI cJ x_14.2.1 x_14.2.2.1 K N_244 I T ++ [(adt, .inl (cI, nt, .inl ft))] ++ [(q_6, .inl (cI, ((if (0 : Int32) < x_1.1 then x_1.1 else 0).toNatClampNeg), .inl z_11.2.2))] ++ [(q_8, .inl (cI, x2.toNatClampNeg, .inl z_12.2))] ++ [(q_10, .inl (cZ, x_4.toNatClampNeg, .inl z_13.2.2))] ++ [(q_244009, .inl (cI, x2.toNatClampNeg, .inl (fun _ => 0)))]) H := hP
                        have hD : va_D A (wSg a cI cJ x_14.2.1 x_14.2.2.1 K N_244 I T ++ [(adt, .inl (cI, nt, .inl ft))] ++ [(q_6, .inl (cI, ((if (0 : Int32) < x_1.1 then x_1.1 else 0).toNatClampNeg), .inl z_11.2.2))] ++ [(q_8, .inl (cI, x2.toNatClampNeg, .inl z_12.2))] ++ [(q_10, .inl (cZ, x_4.toNatClampNeg, .inl z_13.2.2))] ++ [(q_244009, .inl (cI, x2.toNatClampNeg, .inl (fun _ => 0)))]) := hD
                        refine lv_astore (lv' := [(13, .ref q_244009), (11, .int (i11_244 ||| (z_11.2.2 i12_244.toNatClampNeg))), (12, .int i12_244), (10, .ref q_10), (9, .ref q_8), (8, .ref q_6), (7, .int x_4), (6, .int x_3), (5, .int x_2.1), (4, .int x_1.1), (0, .ref (a 0)), (1, .int x1), (2, .int x2), (3, .ref adt)]) hx hb dL_isShown_348 hl (by decide) rfl (fun ls hl => ?_)
                        refine lv_iconst (v := 0) hx hb dL_isShown_350 (by decide) ?_
                        refine lv_istore (lv' := [(14, .int 0), (13, .ref q_244009), (11, .int (i11_244 ||| (z_11.2.2 i12_244.toNatClampNeg))), (12, .int i12_244), (10, .ref q_10), (9, .ref q_8), (8, .ref q_6), (7, .int x_4), (6, .int x_3), (5, .int x_2.1), (4, .int x_1.1), (0, .ref (a 0)), (1, .int x1), (2, .int x2), (3, .ref adt)]) hx hb dL_isShown_351 hl (by decide) rfl (fun ls hl => ?_)
                        have L_353 : ∀ (nn : Nat) (i14_353 : Int32) (A_q_244009_353 : q_IA) (H : Heap) (locs : List Loc) (ls : Array Slot) (z_353 : (Int32 × q_IA)), lv_has ls 15 [(14, .int i14_353), (13, .ref q_244009), (11, .int (i11_244 ||| (z_11.2.2 i12_244.toNatClampNeg))), (12, .int i12_244), (10, .ref q_10), (9, .ref q_8), (8, .ref q_6), (7, .int x_4), (6, .int x_3), (5, .int x_2.1), (4, .int x_1.1), (0, .ref (a 0)), (1, .int x1), (2, .int x2), (3, .ref adt)] → va_P (dC, dI) vwCl (wSg a cI cJ x_14.2.1 x_14.2.2.1 K N_244 I T ++ [(adt, .inl (cI, nt, .inl ft))] ++ [(q_6, .inl (cI, ((if (0 : Int32) < x_1.1 then x_1.1 else 0).toNatClampNeg), .inl z_11.2.2))] ++ [(q_8, .inl (cI, x2.toNatClampNeg, .inl z_12.2))] ++ [(q_10, .inl (cZ, x_4.toNatClampNeg, .inl z_13.2.2))] ++ [(q_244009, .inl (cI, x2.toNatClampNeg, .inl A_q_244009_353))]) H → va_D A (wSg a cI cJ x_14.2.1 x_14.2.2.1 K N_244 I T ++ [(adt, .inl (cI, nt, .inl ft))] ++ [(q_6, .inl (cI, ((if (0 : Int32) < x_1.1 then x_1.1 else 0).toNatClampNeg), .inl z_11.2.2))] ++ [(q_8, .inl (cI, x2.toNatClampNeg, .inl z_12.2))] ++ [(q_10, .inl (cZ, x_4.toNatClampNeg, .inl z_13.2.2))] ++ [(q_244009, .inl (cI, x2.toNatClampNeg, .inl A_q_244009_353))]) → va_S A s.heap H locs → fl_L_isShown_353 x2 z_11 z_12 x_14 i11_244 i12_244 nn i14_353 A_q_244009_353 = some z_353 → (∀ (H : Heap) (locs : List Loc) (ls : Array Slot), lv_has ls 15 [(14, .int z_353.1), (13, .ref q_244009), (11, .int (i11_244 ||| (z_11.2.2 i12_244.toNatClampNeg))), (12, .int i12_244), (10, .ref q_10), (9, .ref q_8), (8, .ref q_6), (7, .int x_4), (6, .int x_3), (5, .int x_2.1), (4, .int x_1.1), (0, .ref (a 0)), (1, .int x1), (2, .int x2), (3, .ref adt)] → va_P (dC, dI) vwCl (wSg a cI cJ x_14.2.1 x_14.2.2.1 K N_244 I T ++ [(adt, .inl (cI, nt, .inl ft))] ++ [(q_6, .inl (cI, ((if (0 : Int32) < x_1.1 then x_1.1 else 0).toNatClampNeg), .inl z_11.2.2))] ++ [(q_8, .inl (cI, x2.toNatClampNeg, .inl z_12.2))] ++ [(q_10, .inl (cZ, x_4.toNatClampNeg, .inl z_13.2.2))] ++ [(q_244009, .inl (cI, x2.toNatClampNeg, .inl z_353.2))]) H → va_D A (wSg a cI cJ x_14.2.1 x_14.2.2.1 K N_244 I T ++ [(adt, .inl (cI, nt, .inl ft))] ++ [(q_6, .inl (cI, ((if (0 : Int32) < x_1.1 then x_1.1 else 0).toNatClampNeg), .inl z_11.2.2))] ++ [(q_8, .inl (cI, x2.toNatClampNeg, .inl z_12.2))] ++ [(q_10, .inl (cZ, x_4.toNatClampNeg, .inl z_13.2.2))] ++ [(q_244009, .inl (cI, x2.toNatClampNeg, .inl z_353.2))]) → va_S A s.heap H locs → W p l e (headSpec wsM_isShown ({ frames := 7, cells := 193, slots := 7412, locals := 161 } : Room)).room s m [.ref (a 0), .int x1, .int x2, .ref adt].toArray below meth c H locs (kc_244 + 1) (ks_244 + 64) (MQ below (va_Qi (S := Unit) (fun r_ _ => r_ = r0.1) (fun _ => q_E (dC, dI) vwCl (wSg a cI cJ r0.2.1 r0.2.2.1 K r0.2.2.2 I T ++ [(adt, .inl (cI, nt, .inl ft))]) (q_ty3 cI cJ cZ) A) A) [.ref (a 0), .int x1, .int x2, .ref adt].toArray s 193 7412 A) (F0 m 396 ls [])) → W p l e (headSpec wsM_isShown ({ frames := 7, cells := 193, slots := 7412, locals := 161 } : Room)).room s m [.ref (a 0), .int x1, .int x2, .ref adt].toArray below meth c H locs (kc_244 + 1) (ks_244 + 64) (MQ below (va_Qi (S := Unit) (fun r_ _ => r_ = r0.1) (fun _ => q_E (dC, dI) vwCl (wSg a cI cJ r0.2.1 r0.2.2.1 K r0.2.2.2 I T ++ [(adt, .inl (cI, nt, .inl ft))]) (q_ty3 cI cJ cZ) A) A) [.ref (a 0), .int x1, .int x2, .ref adt].toArray s 193 7412 A) (F0 m 353 ls []) := by
                          intro nn
                          induction nn with
                          | zero =>
                            intro i14_353 A_q_244009_353 H locs ls z_353 hl hP hD hS hf hex_353
                            rw [fl_L_isShown_353] at hf
                            cases hf
                          | succ nn ih =>
                            intro i14_353 A_q_244009_353 H locs ls z_353 hl hP hD hS hf hex_353
                            rw [fl_L_isShown_353] at hf
                            refine lv_iload hx hb dL_isShown_353 (lv_at hl 0 rfl) ?_
                            refine lv_iload_n hx hb dL_isShown_355 rfl (lv_at hl 13 rfl) ?_
                            refine lv_icmp_ge (tgt := 396) hx hb dL_isShown_356 (by decide) (fun c_353001 => ?_) (fun c_353001 => ?_)
                            · replace hf := (if_pos c_353001).symm.trans hf
                              replace hf := Option.some.inj hf
                              subst hf
                              exact hex_353 H locs ls (lv_sub hl [0, 1, 2, 3, 4, 5, 6, 7, 8, 9, 10, 11, 12, 13, 14] rfl) hP hD hS
                            · replace hf := (if_neg c_353001).symm.trans hf
                              refine lv_aload hx hb dL_isShown_359 (lv_at hl 1 rfl) ?_
                              refine lv_iload hx hb dL_isShown_361 (lv_at hl 0 rfl) ?_
                              refine lv_iload hx hb dL_isShown_363 (lv_at hl 2 rfl) ?_
                              refine lv_iload hx hb dL_isShown_365 (lv_at hl 0 rfl) ?_
                              refine lv_ishr hx hb dL_isShown_367 ?_
                              refine lv_iconst (v := 1) hx hb dL_isShown_368 (by decide) ?_
                              refine lv_iand hx hb dL_isShown_369 ?_
                              refine lv_iconst (v := 1) hx hb dL_isShown_370 (by decide) ?_
                              refine lv_icmp_ne (tgt := 384) hx hb dL_isShown_371 (by decide) (fun c_353002 => ?_) (fun c_353002 => ?_)
                              · replace hf := (if_neg c_353002).symm.trans hf
                                refine lv_aload hx hb dL_isShown_384 (lv_at hl 5 rfl) ?_
                                refine lv_iload hx hb dL_isShown_386 (lv_at hl 0 rfl) ?_
                                by_cases nc_353003 : ¬ q_ix i14_353 x2.toNatClampNeg = true
                                · replace hf := (if_neg nc_353003).symm.trans hf
                                  cases hf
                                have c_353003 := Classical.not_not.mp nc_353003
                                replace hf := (if_pos c_353003).symm.trans hf
                                refine va_iald hx hb hK hP 20 0 rfl rfl (q_ix_in c_353003) dL_isShown_388 ?_
                                refine va_iast hx hb hK hP hD hS 22 0 rfl rfl (q_ix_in c_353003) dL_isShown_389 (fun H locs hP hD hS => ?_)
                                have hP : va_P (dC, dI) vwCl (wSg a cI cJ x_14.2.1 x_14.2.2.1 K N_244 I T ++ [(adt, .inl (cI, nt, .inl ft))] ++ [(q_6, .inl (cI, ((if (0 : Int32) < x_1.1 then x_1.1 else 0).toNatClampNeg), .inl z_11.2.2))] ++ [(q_8, .inl (cI, x2.toNatClampNeg, .inl z_12.2))] ++ [(q_10, .inl (cZ, x_4.toNatClampNeg, .inl z_13.2.2))] ++ [(q_244009, .inl (cI, x2.toNatClampNeg, .inl (upd A_q_244009_353 i14_353.toNatClampNeg (z_12.2 i14_353.toNatClampNeg))))]) H := hP
                                have hD : va_D A (wSg a cI cJ x_14.2.1 x_14.2.2.1 K N_244 I T ++ [(adt, .inl (cI, nt, .inl ft))] ++ [(q_6, .inl (cI, ((if (0 : Int32) < x_1.1 then x_1.1 else 0).toNatClampNeg), .inl z_11.2.2))] ++ [(q_8, .inl (cI, x2.toNatClampNeg, .inl z_12.2))] ++ [(q_10, .inl (cZ, x_4.toNatClampNeg, .inl z_13.2.2))] ++ [(q_244009, .inl (cI, x2.toNatClampNeg, .inl (upd A_q_244009_353 i14_353.toNatClampNeg (z_12.2 i14_353.toNatClampNeg))))]) := hD
                                refine lv_iinc (v := i14_353 + 1) (lv' := [(14, .int (i14_353 + 1)), (13, .ref q_244009), (11, .int (i11_244 ||| (z_11.2.2 i12_244.toNatClampNeg))), (12, .int i12_244), (10, .ref q_10), (9, .ref q_8), (8, .ref q_6), (7, .int x_4), (6, .int x_3), (5, .int x_2.1), (4, .int x_1.1), (0, .ref (a 0)), (1, .int x1), (2, .int x2), (3, .ref adt)]) hx hb dL_isShown_390 hl (k := 0) rfl rfl (by decide) rfl (fun ls hl => ?_)
                                refine lv_goto (tgt := 353) hx hb dL_isShown_393 (by decide) ?_
                                exact ih (i14_353 + 1) (upd A_q_244009_353 i14_353.toNatClampNeg (z_12.2 i14_353.toNatClampNeg)) H locs ls _ (lv_sub hl [0, 1, 2, 3, 4, 5, 6, 7, 8, 9, 10, 11, 12, 13, 14] rfl) hP hD hS hf hex_353
                              · replace hf := (if_pos c_353002).symm.trans hf
                                refine lv_aload_n hx hb dL_isShown_374 rfl (lv_at hl 11 rfl) ?_
                                refine lv_iload hx hb dL_isShown_375 (lv_at hl 0 rfl) ?_
                                refine lv_iconst (v := 0) hx hb dL_isShown_377 (by decide) ?_
                                obtain ⟨x_353004, hx_353004, hf⟩ := Option.bind_eq_some_iff.mp hf
                                refine q_rV (As := [.int i14_353, .int 0]) (rest := [.int i14_353, .ref q_244009]) ⟨hx, hb, hml, hown, hts⟩ (c_X5_column l dC dI cI cJ a x_14.2.1 x_14.2.2.1 K N_244 I T i14_353 0 x_353004 hx_353004) (cwV 2 hts gM_isShown_X5_column rfl rfl rfl (by decide +kernel) ⟨Nat.le_of_ble_eq_true rfl, Nat.le_of_ble_eq_true rfl⟩) (hK.sub (tys' := q_ty cI cJ) [0, 1] rfl) hn (hP.sub (ws' := (wSg a cI cJ x_14.2.1 x_14.2.2.1 K N_244 I T)) [0, 1, 2, 3, 4, 5, 6, 7, 8, 9, 10, 11, 12, 13, 14, 15, 16, 17] rfl) (ci := 5) rfl rfl rfl hl.1 rfl (Nat.le_of_ble_eq_true rfl) dL_isShown_378 ⟨by show kc_244 + 1 ≤ 193; omega, by show ks_244 + 64 ≤ 7412; omega⟩ ?_
                                refine lv_goto (tgt := 389) hx hb dL_isShown_381 (by decide) ?_
                                by_cases nc_353005 : ¬ q_ix i14_353 x2.toNatClampNeg = true
                                · replace hf := (if_neg nc_353005).symm.trans hf
                                  cases hf
                                have c_353005 := Classical.not_not.mp nc_353005
                                replace hf := (if_pos c_353005).symm.trans hf
                                refine va_iast hx hb hK hP hD hS 22 0 rfl rfl (q_ix_in c_353005) dL_isShown_389 (fun H locs hP hD hS => ?_)
                                have hP : va_P (dC, dI) vwCl (wSg a cI cJ x_14.2.1 x_14.2.2.1 K N_244 I T ++ [(adt, .inl (cI, nt, .inl ft))] ++ [(q_6, .inl (cI, ((if (0 : Int32) < x_1.1 then x_1.1 else 0).toNatClampNeg), .inl z_11.2.2))] ++ [(q_8, .inl (cI, x2.toNatClampNeg, .inl z_12.2))] ++ [(q_10, .inl (cZ, x_4.toNatClampNeg, .inl z_13.2.2))] ++ [(q_244009, .inl (cI, x2.toNatClampNeg, .inl (upd A_q_244009_353 i14_353.toNatClampNeg x_353004)))]) H := hP
                                have hD : va_D A (wSg a cI cJ x_14.2.1 x_14.2.2.1 K N_244 I T ++ [(adt, .inl (cI, nt, .inl ft))] ++ [(q_6, .inl (cI, ((if (0 : Int32) < x_1.1 then x_1.1 else 0).toNatClampNeg), .inl z_11.2.2))] ++ [(q_8, .inl (cI, x2.toNatClampNeg, .inl z_12.2))] ++ [(q_10, .inl (cZ, x_4.toNatClampNeg, .inl z_13.2.2))] ++ [(q_244009, .inl (cI, x2.toNatClampNeg, .inl (upd A_q_244009_353 i14_353.toNatClampNeg x_353004)))]) := hD
                                refine lv_iinc (v := i14_353 + 1) (lv' := [(14, .int (i14_353 + 1)), (13, .ref q_244009), (11, .int (i11_244 ||| (z_11.2.2 i12_244.toNatClampNeg))), (12, .int i12_244), (10, .ref q_10), (9, .ref q_8), (8, .ref q_6), (7, .int x_4), (6, .int x_3), (5, .int x_2.1), (4, .int x_1.1), (0, .ref (a 0)), (1, .int x1), (2, .int x2), (3, .ref adt)]) hx hb dL_isShown_390 hl (k := 0) rfl rfl (by decide) rfl (fun ls hl => ?_)
                                refine lv_goto (tgt := 353) hx hb dL_isShown_393 (by decide) ?_
                                exact ih (i14_353 + 1) (upd A_q_244009_353 i14_353.toNatClampNeg x_353004) H locs ls _ (lv_sub hl [0, 1, 2, 3, 4, 5, 6, 7, 8, 9, 10, 11, 12, 13, 14] rfl) hP hD hS hf hex_353
                        obtain ⟨z_244010, hz_244010, hf⟩ := Option.bind_eq_some_iff.mp hf
                        refine L_353 1000 0 (fun _ => 0) H locs ls z_244010 (lv_sub hl [0, 1, 2, 3, 4, 5, 6, 7, 8, 9, 10, 11, 12, 13, 14] rfl) hP hD hS hz_244010 (fun H locs ls hl hP hD hS => ?_)
                        refine lv_aload_n hx hb dL_isShown_396 rfl (lv_at hl 11 rfl) ?_
                        refine lv_aload hx hb dL_isShown_397 (lv_at hl 1 rfl) ?_
                        refine lv_aload hx hb dL_isShown_399 (lv_at hl 4 rfl) ?_
                        refine lv_aload_n hx hb dL_isShown_401 rfl (lv_at hl 14 rfl) ?_
                        obtain ⟨x_244011, hx_244011, hf⟩ := Option.bind_eq_some_iff.mp hf
                        have hPc := hP.sub (ws' := (wSg a cI cJ x_14.2.1 x_14.2.2.1 K N_244 I T ++ [(q_244009, .inl (cI, x2.toNatClampNeg, .inl z_244010.2))] ++ [(q_10, .inl (cZ, x_4.toNatClampNeg, .inl z_13.2.2))] ++ [(adt, .inl (cI, nt, .inl ft))])) [0, 1, 2, 3, 4, 5, 6, 7, 8, 9, 10, 11, 12, 13, 14, 15, 16, 17, 22, 21, 18] rfl
                        have hDc := hD.sub (ws' := (wSg a cI cJ x_14.2.1 x_14.2.2.1 K N_244 I T ++ [(q_244009, .inl (cI, x2.toNatClampNeg, .inl z_244010.2))] ++ [(q_10, .inl (cZ, x_4.toNatClampNeg, .inl z_13.2.2))] ++ [(adt, .inl (cI, nt, .inl ft))])) [0, 1, 2, 3, 4, 5, 6, 7, 8, 9, 10, 11, 12, 13, 14, 15, 16, 17, 22, 21, 18] (by decide) rfl
                        have hFc := va_free (wc := (wSg a cI cJ x_14.2.1 x_14.2.2.1 K N_244 I T ++ [(q_244009, .inl (cI, x2.toNatClampNeg, .inl z_244010.2))] ++ [(q_10, .inl (cZ, x_4.toNatClampNeg, .inl z_13.2.2))] ++ [(adt, .inl (cI, nt, .inl ft))])) hD hS hA [0, 1, 2, 3, 4, 5, 6, 7, 8, 9, 10, 11, 12, 13, 14, 15, 16, 17, 22, 21, 18] rfl
                        refine va_calli (va_runS (As := [.ref (a 0), .ref q_244009, .ref q_10, .ref adt]) (rest := []) ⟨hx, hb, hml, hown, hts⟩ (c_L_isRight l dC dI cI cJ cZ a q_244009 q_10 adt H.size x_14.2.1 x_14.2.2.1 K N_244 I T x2.toNatClampNeg z_244010.2 x_4.toNatClampNeg z_13.2.2 nt ft x_244011 hx_244011) (va_cwS 4 hts gM_isShown_L_isRight rfl rfl rfl (by decide +kernel) ⟨Nat.le_of_ble_eq_true rfl, Nat.le_of_ble_eq_true rfl⟩) ⟨q_Wblind, q_Wpre hPc hK hn hDc⟩ rfl rfl hl.1 rfl (lv_room (Nat.le_of_ble_eq_true rfl)) dL_isShown_402 ⟨by show kc_244 + 1 + 18 ≤ 193; omega, by show ks_244 + 64 + 658 ≤ 7412; omega⟩) hS (fun q _ h => hFc q h) hFc (fun r_9 u t H1 locs ht hvm hw hB hz1 hk1 hS => ?_)
                        subst hw
                        obtain ⟨hP1, hK1, hD1⟩ := hB
                        rw [ht] at hP1
                        obtain ⟨hP, hD⟩ := va_join (wr := ([(q_6, .inl (cI, ((if (0 : Int32) < x_1.1 then x_1.1 else 0).toNatClampNeg), .inl z_11.2.2))] ++ [(q_8, .inl (cI, x2.toNatClampNeg, .inl z_12.2))])) (w1 := (wSg a cI cJ x_14.2.1 x_14.2.2.1 K x_244011.2 I T ++ [(q_244009, .inl (cI, x2.toNatClampNeg, .inl z_244010.2))] ++ [(q_10, .inl (cZ, x_4.toNatClampNeg, .inl z_13.2.2))] ++ [(adt, .inl (cI, nt, .inl ft))])) hP hD [0, 1, 2, 3, 4, 5, 6, 7, 8, 9, 10, 11, 12, 13, 14, 15, 16, 17, 22, 21, 18] [19, 20] rfl rfl (by decide) (by decide) hk1 hFc hP1 hD1
                        generalize H1 = H at hP hS ⊢
                        replace hP := hP.sub (ws' := (wSg a cI cJ x_14.2.1 x_14.2.2.1 K x_244011.2 I T ++ [(adt, .inl (cI, nt, .inl ft))] ++ [(q_6, .inl (cI, ((if (0 : Int32) < x_1.1 then x_1.1 else 0).toNatClampNeg), .inl z_11.2.2))] ++ [(q_8, .inl (cI, x2.toNatClampNeg, .inl z_12.2))] ++ [(q_10, .inl (cZ, x_4.toNatClampNeg, .inl z_13.2.2))] ++ [(q_244009, .inl (cI, x2.toNatClampNeg, .inl z_244010.2))])) [2, 3, 4, 5, 6, 7, 8, 9, 10, 11, 12, 13, 14, 15, 16, 17, 18, 19, 22, 0, 1, 21, 20] rfl
                        replace hD := hD.sub (ws' := (wSg a cI cJ x_14.2.1 x_14.2.2.1 K x_244011.2 I T ++ [(adt, .inl (cI, nt, .inl ft))] ++ [(q_6, .inl (cI, ((if (0 : Int32) < x_1.1 then x_1.1 else 0).toNatClampNeg), .inl z_11.2.2))] ++ [(q_8, .inl (cI, x2.toNatClampNeg, .inl z_12.2))] ++ [(q_10, .inl (cZ, x_4.toNatClampNeg, .inl z_13.2.2))] ++ [(q_244009, .inl (cI, x2.toNatClampNeg, .inl z_244010.2))])) [2, 3, 4, 5, 6, 7, 8, 9, 10, 11, 12, 13, 14, 15, 16, 17, 18, 19, 22, 0, 1, 21, 20] (by decide) rfl
                        have hP : va_P (dC, dI) vwCl (wSg a cI cJ x_14.2.1 x_14.2.2.1 K x_244011.2 I T ++ [(adt, .inl (cI, nt, .inl ft))] ++ [(q_6, .inl (cI, ((if (0 : Int32) < x_1.1 then x_1.1 else 0).toNatClampNeg), .inl z_11.2.2))] ++ [(q_8, .inl (cI, x2.toNatClampNeg, .inl z_12.2))] ++ [(q_10, .inl (cZ, x_4.toNatClampNeg, .inl z_13.2.2))] ++ [(q_244009, .inl (cI, x2.toNatClampNeg, .inl z_244010.2))]) H := hP
                        have hD : va_D A (wSg a cI cJ x_14.2.1 x_14.2.2.1 K x_244011.2 I T ++ [(adt, .inl (cI, nt, .inl ft))] ++ [(q_6, .inl (cI, ((if (0 : Int32) < x_1.1 then x_1.1 else 0).toNatClampNeg), .inl z_11.2.2))] ++ [(q_8, .inl (cI, x2.toNatClampNeg, .inl z_12.2))] ++ [(q_10, .inl (cZ, x_4.toNatClampNeg, .inl z_13.2.2))] ++ [(q_244009, .inl (cI, x2.toNatClampNeg, .inl z_244010.2))]) := hD
                        refine W.widen (k := kc_244 + 19) (n := ks_244 + 722) (by omega) (by omega) ?_
                        refine lv_if_ne (tgt := 410) hx hb dL_isShown_405 (by decide) (fun c_244012 => ?_) (fun c_244012 => ?_)
                        · replace hf := (if_neg c_244012).symm.trans hf
                          refine lv_iinc (v := i12_244 + 1) (lv' := [(12, .int (i12_244 + 1)), (14, .int z_244010.1), (13, .ref q_244009), (11, .int (i11_244 ||| (z_11.2.2 i12_244.toNatClampNeg))), (10, .ref q_10), (9, .ref q_8), (8, .ref q_6), (7, .int x_4), (6, .int x_3), (5, .int x_2.1), (4, .int x_1.1), (0, .ref (a 0)), (1, .int x1), (2, .int x2), (3, .ref adt)]) hx hb dL_isShown_410 hl (k := 3) rfl rfl (by decide) rfl (fun ls hl => ?_)
                          refine lv_goto (tgt := 244) hx hb dL_isShown_413 (by decide) ?_
                          replace hP := hP.sub (ws' := (wSg a cI cJ x_14.2.1 x_14.2.2.1 K x_244011.2 I T ++ [(adt, .inl (cI, nt, .inl ft))] ++ [(q_6, .inl (cI, ((if (0 : Int32) < x_1.1 then x_1.1 else 0).toNatClampNeg), .inl z_11.2.2))] ++ [(q_8, .inl (cI, x2.toNatClampNeg, .inl z_12.2))] ++ [(q_10, .inl (cZ, x_4.toNatClampNeg, .inl z_13.2.2))])) [0, 1, 2, 3, 4, 5, 6, 7, 8, 9, 10, 11, 12, 13, 14, 15, 16, 17, 18, 19, 20, 21] rfl
                          replace hD := hD.sub (ws' := (wSg a cI cJ x_14.2.1 x_14.2.2.1 K x_244011.2 I T ++ [(adt, .inl (cI, nt, .inl ft))] ++ [(q_6, .inl (cI, ((if (0 : Int32) < x_1.1 then x_1.1 else 0).toNatClampNeg), .inl z_11.2.2))] ++ [(q_8, .inl (cI, x2.toNatClampNeg, .inl z_12.2))] ++ [(q_10, .inl (cZ, x_4.toNatClampNeg, .inl z_13.2.2))])) [0, 1, 2, 3, 4, 5, 6, 7, 8, 9, 10, 11, 12, 13, 14, 15, 16, 17, 18, 19, 20, 21] (by decide) rfl
                          exact ih (i11_244 ||| (z_11.2.2 i12_244.toNatClampNeg)) (i12_244 + 1) x_244011.2 (kc_244 + 19) (ks_244 + 722) H locs ls _ (lv_sub hl [0, 3, 4, 5, 6, 7, 8, 9, 10, 11, 12, 13, 14] rfl) (by omega) (by omega) hP hD hS hf hret_244 hex_244
                        · replace hf := (if_pos c_244012).symm.trans hf
                          refine lv_iconst (v := 0) hx hb dL_isShown_408 (by decide) ?_
                          replace hf := hret_244 (0, x_14.2.1, x_14.2.2.1, x_244011.2) (Option.some.inj hf).symm
                          subst hf
                          have hP9 := hP.sub (ws' := (wSg a cI cJ x_14.2.1 x_14.2.2.1 K x_244011.2 I T ++ [(adt, .inl (cI, nt, .inl ft))])) [0, 1, 2, 3, 4, 5, 6, 7, 8, 9, 10, 11, 12, 13, 14, 15, 16, 17, 18] rfl
                          have hD9 := hD.sub (ws' := (wSg a cI cJ x_14.2.1 x_14.2.2.1 K x_244011.2 I T ++ [(adt, .inl (cI, nt, .inl ft))])) [0, 1, 2, 3, 4, 5, 6, 7, 8, 9, 10, 11, 12, 13, 14, 15, 16, 17, 18] (by decide) rfl
                          refine W.widen (k := 193) (n := 7412) (by omega) (by omega) ?_
                          exact W.zret (v := 0) (ty := .boolean) hx hb hr rfl (fun t ht hW => ⟨⟨0, (), rfl, rfl, ⟨by rw [ht]; exact hP9, va_K.moved hW.alike hK, hD9⟩⟩, hS.F ht⟩) hS.2.2 dL_isShown_409
                      · replace hf := (if_pos c_244007).symm.trans hf
                        refine lv_goto (tgt := 410) hx hb dL_isShown_342 (by decide) ?_
                        refine lv_iinc (v := i12_244 + 1) (lv' := [(12, .int (i12_244 + 1)), (13, .int y_244006), (11, .int (i11_244 ||| (z_11.2.2 i12_244.toNatClampNeg))), (10, .ref q_10), (9, .ref q_8), (8, .ref q_6), (7, .int x_4), (6, .int x_3), (5, .int x_2.1), (4, .int x_1.1), (0, .ref (a 0)), (1, .int x1), (2, .int x2), (3, .ref adt)]) hx hb dL_isShown_410 hl (k := 2) rfl rfl (by decide) rfl (fun ls hl => ?_)
                        refine lv_goto (tgt := 244) hx hb dL_isShown_413 (by decide) ?_
                        exact ih (i11_244 ||| (z_11.2.2 i12_244.toNatClampNeg)) (i12_244 + 1) N_244 kc_244 ks_244 H locs ls _ (lv_sub hl [0, 2, 3, 4, 5, 6, 7, 8, 9, 10, 11, 12, 13] rfl) (by omega) (by omega) hP hD hS hf hret_244 hex_244
                    · replace hf := (if_neg c_244004).symm.trans hf
                      refine lv_iconst (v := 0) hx hb dL_isShown_270 (by decide) ?_
                      replace hf := hret_244 (0, x_14.2.1, x_14.2.2.1, N_244) (Option.some.inj hf).symm
                      subst hf
                      have hP9 := hP.sub (ws' := (wSg a cI cJ x_14.2.1 x_14.2.2.1 K N_244 I T ++ [(adt, .inl (cI, nt, .inl ft))])) [0, 1, 2, 3, 4, 5, 6, 7, 8, 9, 10, 11, 12, 13, 14, 15, 16, 17, 18] rfl
                      have hD9 := hD.sub (ws' := (wSg a cI cJ x_14.2.1 x_14.2.2.1 K N_244 I T ++ [(adt, .inl (cI, nt, .inl ft))])) [0, 1, 2, 3, 4, 5, 6, 7, 8, 9, 10, 11, 12, 13, 14, 15, 16, 17, 18] (by decide) rfl
                      refine W.widen (k := 193) (n := 7412) (by omega) (by omega) ?_
                      exact W.zret (v := 0) (ty := .boolean) hx hb hr rfl (fun t ht hW => ⟨⟨0, (), rfl, rfl, ⟨by rw [ht]; exact hP9, va_K.moved hW.alike hK, hD9⟩⟩, hS.F ht⟩) hS.2.2 dL_isShown_271
            obtain ⟨z_23, hz_23, hf⟩ := Option.bind_eq_some_iff.mp hf
            refine L_244 10 0 0 x_21.2 3 192 H locs ls z_23 (lv_sub hl [0, 1, 2, 3, 4, 5, 6, 7, 8, 9, 10, 11, 12] rfl) (by omega) (by omega) hP hD hS hz_23 (fun r_ hz => by rw [hz] at hf; exact Option.some.inj hf) (fun y_24 H locs ls hz hl hP hD hS => ?_)
            subst hz
            simp only [Sum.elim_inr] at hf
            refine lv_iconst (v := 1) hx hb dL_isShown_416 (by decide) ?_
            replace hf := Option.some.inj hf
            subst hf
            have hP9 := hP.sub (ws' := (wSg a cI cJ x_14.2.1 x_14.2.2.1 K y_24.2.2 I T ++ [(adt, .inl (cI, nt, .inl ft))])) [0, 1, 2, 3, 4, 5, 6, 7, 8, 9, 10, 11, 12, 13, 14, 15, 16, 17, 18] rfl
            have hD9 := hD.sub (ws' := (wSg a cI cJ x_14.2.1 x_14.2.2.1 K y_24.2.2 I T ++ [(adt, .inl (cI, nt, .inl ft))])) [0, 1, 2, 3, 4, 5, 6, 7, 8, 9, 10, 11, 12, 13, 14, 15, 16, 17, 18] (by decide) rfl
            exact W.zret (v := 1) (ty := .boolean) hx hb hr rfl (fun t ht hW => ⟨⟨1, (), rfl, rfl, ⟨by rw [ht]; exact hP9, va_K.moved hW.alike hK, hD9⟩⟩, hS.F ht⟩) hS.2.2 dL_isShown_417
          · replace hf := (if_neg c_22).symm.trans hf
            refine lv_iconst (v := 0) hx hb dL_isShown_236 (by decide) ?_
            replace hf := Option.some.inj hf
            subst hf
            have hP9 := hP.sub (ws' := (wSg a cI cJ x_14.2.1 x_14.2.2.1 K x_21.2 I T ++ [(adt, .inl (cI, nt, .inl ft))])) [0, 1, 2, 3, 4, 5, 6, 7, 8, 9, 10, 11, 12, 13, 14, 15, 16, 17, 18] rfl
            have hD9 := hD.sub (ws' := (wSg a cI cJ x_14.2.1 x_14.2.2.1 K x_21.2 I T ++ [(adt, .inl (cI, nt, .inl ft))])) [0, 1, 2, 3, 4, 5, 6, 7, 8, 9, 10, 11, 12, 13, 14, 15, 16, 17, 18] (by decide) rfl
            refine W.widen (k := 193) (n := 7412) (by omega) (by omega) ?_
            exact W.zret (v := 0) (ty := .boolean) hx hb hr rfl (fun t ht hW => ⟨⟨0, (), rfl, rfl, ⟨by rw [ht]; exact hP9, va_K.moved hW.alike hK, hD9⟩⟩, hS.F ht⟩) hS.2.2 dL_isShown_237
        · replace hf := (if_pos c_20).symm.trans hf
          refine lv_aload_n hx hb dL_isShown_216 rfl (lv_at hl 8 rfl) ?_
          refine lv_iload_n hx hb dL_isShown_217 rfl (lv_at hl 9 rfl) ?_
          refine lv_iconst (v := 5) hx hb dL_isShown_218 (by decide) ?_
          obtain ⟨x_25, hx_25, hf⟩ := Option.bind_eq_some_iff.mp hf
          have hPc := hP.sub (ws' := (wSg a cI cJ x_14.2.1 x_14.2.2.1 K x_19.2 I T)) [0, 1, 2, 3, 4, 5, 6, 7, 8, 9, 10, 11, 12, 13, 14, 15, 16, 17] rfl
          have hDc := hD.sub (ws' := (wSg a cI cJ x_14.2.1 x_14.2.2.1 K x_19.2 I T)) [0, 1, 2, 3, 4, 5, 6, 7, 8, 9, 10, 11, 12, 13, 14, 15, 16, 17] (by decide) rfl
          have hFc := va_free (wc := (wSg a cI cJ x_14.2.1 x_14.2.2.1 K x_19.2 I T)) hD hS hA [0, 1, 2, 3, 4, 5, 6, 7, 8, 9, 10, 11, 12, 13, 14, 15, 16, 17] rfl
          refine va_calli (va_runV (As := [.int x1, .int 5]) (rest := []) ⟨hx, hb, hml, hown, hts⟩ (c_X5_ofLine l dC dI cI cJ a H.size x_14.2.1 x_14.2.2.1 K x_19.2 I T x1 5 x_25 hx_25) (cwV 2 hts gM_isShown_X5_ofLine rfl rfl rfl (by decide +kernel) ⟨Nat.le_of_ble_eq_true rfl, Nat.le_of_ble_eq_true rfl⟩) ⟨q_Wblind, va_recv (hK.sub (tys' := q_ty cI cJ) [0, 1] rfl) hPc (ci := 5) (q0 := 0) rfl rfl, q_Wpre hPc (hK.sub (tys' := q_ty cI cJ) [0, 1] rfl) hn hDc⟩ rfl rfl hl.1 rfl (lv_room (Nat.le_of_ble_eq_true rfl)) dL_isShown_219 ⟨by show 3 + 0 ≤ 193; omega, by show 192 + 0 ≤ 7412; omega⟩) hS (fun q _ h => hFc q h) hFc (fun r_9 u t H1 locs ht hvm hw hB hz1 hk1 hS => ?_)
          subst hw
          obtain ⟨hP1, hK1, hD1⟩ := hB
          rw [ht] at hP1
          obtain ⟨hP, hD⟩ := va_join (wr := ([(adt, .inl (cI, nt, .inl ft))] ++ [(q_6, .inl (cI, ((if (0 : Int32) < x_1.1 then x_1.1 else 0).toNatClampNeg), .inl z_11.2.2))] ++ [(q_8, .inl (cI, x2.toNatClampNeg, .inl z_12.2))] ++ [(q_10, .inl (cZ, x_4.toNatClampNeg, .inl z_13.2.2))])) (w1 := (wSg a cI cJ x_14.2.1 x_14.2.2.1 K x_25.2 I T)) hP hD [0, 1, 2, 3, 4, 5, 6, 7, 8, 9, 10, 11, 12, 13, 14, 15, 16, 17] [18, 19, 20, 21] rfl rfl (by decide) (by decide) hk1 hFc hP1 hD1
          generalize H1 = H at hP hS ⊢
          replace hP := hP.sub (ws' := (wSg a cI cJ x_14.2.1 x_14.2.2.1 K x_25.2 I T ++ [(adt, .inl (cI, nt, .inl ft))] ++ [(q_6, .inl (cI, ((if (0 : Int32) < x_1.1 then x_1.1 else 0).toNatClampNeg), .inl z_11.2.2))] ++ [(q_8, .inl (cI, x2.toNatClampNeg, .inl z_12.2))] ++ [(q_10, .inl (cZ, x_4.toNatClampNeg, .inl z_13.2.2))])) [4, 5, 6, 7, 8, 9, 10, 11, 12, 13, 14, 15, 16, 17, 18, 19, 20, 21, 0, 1, 2, 3] rfl
          replace hD := hD.sub (ws' := (wSg a cI cJ x_14.2.1 x_14.2.2.1 K x_25.2 I T ++ [(adt, .inl (cI, nt, .inl ft))] ++ [(q_6, .inl (cI, ((if (0 : Int32) < x_1.1 then x_1.1 else 0).toNatClampNeg), .inl z_11.2.2))] ++ [(q_8, .inl (cI, x2.toNatClampNeg, .inl z_12.2))] ++ [(q_10, .inl (cZ, x_4.toNatClampNeg, .inl z_13.2.2))])) [4, 5, 6, 7, 8, 9, 10, 11, 12, 13, 14, 15, 16, 17, 18, 19, 20, 21, 0, 1, 2, 3] (by decide) rfl
          have hP : va_P (dC, dI) vwCl (wSg a cI cJ x_14.2.1 x_14.2.2.1 K x_25.2 I T ++ [(adt, .inl (cI, nt, .inl ft))] ++ [(q_6, .inl (cI, ((if (0 : Int32) < x_1.1 then x_1.1 else 0).toNatClampNeg), .inl z_11.2.2))] ++ [(q_8, .inl (cI, x2.toNatClampNeg, .inl z_12.2))] ++ [(q_10, .inl (cZ, x_4.toNatClampNeg, .inl z_13.2.2))]) H := hP
          have hD : va_D A (wSg a cI cJ x_14.2.1 x_14.2.2.1 K x_25.2 I T ++ [(adt, .inl (cI, nt, .inl ft))] ++ [(q_6, .inl (cI, ((if (0 : Int32) < x_1.1 then x_1.1 else 0).toNatClampNeg), .inl z_11.2.2))] ++ [(q_8, .inl (cI, x2.toNatClampNeg, .inl z_12.2))] ++ [(q_10, .inl (cZ, x_4.toNatClampNeg, .inl z_13.2.2))]) := hD
          refine lv_iconst (v := 1) hx hb dL_isShown_222 (by decide) ?_
          refine lv_icmp_ne (tgt := 236) hx hb dL_isShown_223 (by decide) (fun c_26 => ?_) (fun c_26 => ?_)
          · replace hf := (if_neg c_26).symm.trans hf
            refine lv_iconst (v := 0) hx hb dL_isShown_236 (by decide) ?_
            replace hf := Option.some.inj hf
            subst hf
            have hP9 := hP.sub (ws' := (wSg a cI cJ x_14.2.1 x_14.2.2.1 K x_25.2 I T ++ [(adt, .inl (cI, nt, .inl ft))])) [0, 1, 2, 3, 4, 5, 6, 7, 8, 9, 10, 11, 12, 13, 14, 15, 16, 17, 18] rfl
            have hD9 := hD.sub (ws' := (wSg a cI cJ x_14.2.1 x_14.2.2.1 K x_25.2 I T ++ [(adt, .inl (cI, nt, .inl ft))])) [0, 1, 2, 3, 4, 5, 6, 7, 8, 9, 10, 11, 12, 13, 14, 15, 16, 17, 18] (by decide) rfl
            refine W.widen (k := 193) (n := 7412) (by omega) (by omega) ?_
            exact W.zret (v := 0) (ty := .boolean) hx hb hr rfl (fun t ht hW => ⟨⟨0, (), rfl, rfl, ⟨by rw [ht]; exact hP9, va_K.moved hW.alike hK, hD9⟩⟩, hS.F ht⟩) hS.2.2 dL_isShown_237
          · replace hf := (if_pos c_26).symm.trans hf
            refine lv_aload_n hx hb dL_isShown_226 rfl (lv_at hl 8 rfl) ?_
            refine lv_iload_n hx hb dL_isShown_227 rfl (lv_at hl 9 rfl) ?_
            refine lv_bipush (v := 6) hx hb dL_isShown_228 (by decide) ?_
            obtain ⟨x_27, hx_27, hf⟩ := Option.bind_eq_some_iff.mp hf
            have hPc := hP.sub (ws' := (wSg a cI cJ x_14.2.1 x_14.2.2.1 K x_25.2 I T)) [0, 1, 2, 3, 4, 5, 6, 7, 8, 9, 10, 11, 12, 13, 14, 15, 16, 17] rfl
            have hDc := hD.sub (ws' := (wSg a cI cJ x_14.2.1 x_14.2.2.1 K x_25.2 I T)) [0, 1, 2, 3, 4, 5, 6, 7, 8, 9, 10, 11, 12, 13, 14, 15, 16, 17] (by decide) rfl
            have hFc := va_free (wc := (wSg a cI cJ x_14.2.1 x_14.2.2.1 K x_25.2 I T)) hD hS hA [0, 1, 2, 3, 4, 5, 6, 7, 8, 9, 10, 11, 12, 13, 14, 15, 16, 17] rfl
            refine va_calli (va_runV (As := [.int x1, .int 6]) (rest := []) ⟨hx, hb, hml, hown, hts⟩ (c_X5_ofLine l dC dI cI cJ a H.size x_14.2.1 x_14.2.2.1 K x_25.2 I T x1 6 x_27 hx_27) (cwV 2 hts gM_isShown_X5_ofLine rfl rfl rfl (by decide +kernel) ⟨Nat.le_of_ble_eq_true rfl, Nat.le_of_ble_eq_true rfl⟩) ⟨q_Wblind, va_recv (hK.sub (tys' := q_ty cI cJ) [0, 1] rfl) hPc (ci := 5) (q0 := 0) rfl rfl, q_Wpre hPc (hK.sub (tys' := q_ty cI cJ) [0, 1] rfl) hn hDc⟩ rfl rfl hl.1 rfl (lv_room (Nat.le_of_ble_eq_true rfl)) dL_isShown_230 ⟨by show 3 + 0 ≤ 193; omega, by show 192 + 0 ≤ 7412; omega⟩) hS (fun q _ h => hFc q h) hFc (fun r_9 u t H1 locs ht hvm hw hB hz1 hk1 hS => ?_)
            subst hw
            obtain ⟨hP1, hK1, hD1⟩ := hB
            rw [ht] at hP1
            obtain ⟨hP, hD⟩ := va_join (wr := ([(adt, .inl (cI, nt, .inl ft))] ++ [(q_6, .inl (cI, ((if (0 : Int32) < x_1.1 then x_1.1 else 0).toNatClampNeg), .inl z_11.2.2))] ++ [(q_8, .inl (cI, x2.toNatClampNeg, .inl z_12.2))] ++ [(q_10, .inl (cZ, x_4.toNatClampNeg, .inl z_13.2.2))])) (w1 := (wSg a cI cJ x_14.2.1 x_14.2.2.1 K x_27.2 I T)) hP hD [0, 1, 2, 3, 4, 5, 6, 7, 8, 9, 10, 11, 12, 13, 14, 15, 16, 17] [18, 19, 20, 21] rfl rfl (by decide) (by decide) hk1 hFc hP1 hD1
            generalize H1 = H at hP hS ⊢
            replace hP := hP.sub (ws' := (wSg a cI cJ x_14.2.1 x_14.2.2.1 K x_27.2 I T ++ [(adt, .inl (cI, nt, .inl ft))] ++ [(q_6, .inl (cI, ((if (0 : Int32) < x_1.1 then x_1.1 else 0).toNatClampNeg), .inl z_11.2.2))] ++ [(q_8, .inl (cI, x2.toNatClampNeg, .inl z_12.2))] ++ [(q_10, .inl (cZ, x_4.toNatClampNeg, .inl z_13.2.2))])) [4, 5, 6, 7, 8, 9, 10, 11, 12, 13, 14, 15, 16, 17, 18, 19, 20, 21, 0, 1, 2, 3] rfl
            replace hD := hD.sub (ws' := (wSg a cI cJ x_14.2.1 x_14.2.2.1 K x_27.2 I T ++ [(adt, .inl (cI, nt, .inl ft))] ++ [(q_6, .inl (cI, ((if (0 : Int32) < x_1.1 then x_1.1 else 0).toNatClampNeg), .inl z_11.2.2))] ++ [(q_8, .inl (cI, x2.toNatClampNeg, .inl z_12.2))] ++ [(q_10, .inl (cZ, x_4.toNatClampNeg, .inl z_13.2.2))])) [4, 5, 6, 7, 8, 9, 10, 11, 12, 13, 14, 15, 16, 17, 18, 19, 20, 21, 0, 1, 2, 3] (by decide) rfl
            have hP : va_P (dC, dI) vwCl (wSg a cI cJ x_14.2.1 x_14.2.2.1 K x_27.2 I T ++ [(adt, .inl (cI, nt, .inl ft))] ++ [(q_6, .inl (cI, ((if (0 : Int32) < x_1.1 then x_1.1 else 0).toNatClampNeg), .inl z_11.2.2))] ++ [(q_8, .inl (cI, x2.toNatClampNeg, .inl z_12.2))] ++ [(q_10, .inl (cZ, x_4.toNatClampNeg, .inl z_13.2.2))]) H := hP
            have hD : va_D A (wSg a cI cJ x_14.2.1 x_14.2.2.1 K x_27.2 I T ++ [(adt, .inl (cI, nt, .inl ft))] ++ [(q_6, .inl (cI, ((if (0 : Int32) < x_1.1 then x_1.1 else 0).toNatClampNeg), .inl z_11.2.2))] ++ [(q_8, .inl (cI, x2.toNatClampNeg, .inl z_12.2))] ++ [(q_10, .inl (cZ, x_4.toNatClampNeg, .inl z_13.2.2))]) := hD
            refine lv_if_eq (tgt := 238) hx hb dL_isShown_233 (by decide) (fun c_28 => ?_) (fun c_28 => ?_)
            · replace hf := (if_pos c_28).symm.trans hf
              refine lv_iconst (v := 0) hx hb dL_isShown_238 (by decide) ?_
              refine lv_istore (lv' := [(11, .int 0), (10, .ref q_10), (9, .ref q_8), (8, .ref q_6), (7, .int x_4), (6, .int x_3), (5, .int x_2.1), (4, .int x_1.1), (0, .ref (a 0)), (1, .int x1), (2, .int x2), (3, .ref adt)]) hx hb dL_isShown_239 hl (by decide) rfl (fun ls hl => ?_)
              refine lv_iconst (v := 0) hx hb dL_isShown_241 (by decide) ?_
              refine lv_istore (lv' := [(12, .int 0), (11, .int 0), (10, .ref q_10), (9, .ref q_8), (8, .ref q_6), (7, .int x_4), (6, .int x_3), (5, .int x_2.1), (4, .int x_1.1), (0, .ref (a 0)), (1, .int x1), (2, .int x2), (3, .ref adt)]) hx hb dL_isShown_242 hl (by decide) rfl (fun ls hl => ?_)
              have L_244 : ∀ (nn : Nat) (i11_244 : Int32) (i12_244 : Int32) (N_244 : q_Pl) (kc_244 ks_244 : Nat) (H : Heap) (locs : List Loc) (ls : Array Slot) (z_244 : ((Int32 × q_Fl × q_Bd × q_Pl) ⊕ (Int32 × Int32 × q_Pl))), lv_has ls 15 [(12, .int i12_244), (11, .int i11_244), (10, .ref q_10), (9, .ref q_8), (8, .ref q_6), (7, .int x_4), (6, .int x_3), (5, .int x_2.1), (4, .int x_1.1), (0, .ref (a 0)), (1, .int x1), (2, .int x2), (3, .ref adt)] → kc_244 + nn * 19 ≤ 193 → ks_244 + nn * 722 ≤ 7412 → va_P (dC, dI) vwCl (wSg a cI cJ x_14.2.1 x_14.2.2.1 K N_244 I T ++ [(adt, .inl (cI, nt, .inl ft))] ++ [(q_6, .inl (cI, ((if (0 : Int32) < x_1.1 then x_1.1 else 0).toNatClampNeg), .inl z_11.2.2))] ++ [(q_8, .inl (cI, x2.toNatClampNeg, .inl z_12.2))] ++ [(q_10, .inl (cZ, x_4.toNatClampNeg, .inl z_13.2.2))]) H → va_D A (wSg a cI cJ x_14.2.1 x_14.2.2.1 K N_244 I T ++ [(adt, .inl (cI, nt, .inl ft))] ++ [(q_6, .inl (cI, ((if (0 : Int32) < x_1.1 then x_1.1 else 0).toNatClampNeg), .inl z_11.2.2))] ++ [(q_8, .inl (cI, x2.toNatClampNeg, .inl z_12.2))] ++ [(q_10, .inl (cZ, x_4.toNatClampNeg, .inl z_13.2.2))]) → va_S A s.heap H locs → fl_L_isShown_244 x2 K I T nt ft x_1 x_4 z_11 z_12 z_13 x_14 nn i11_244 i12_244 N_244 = some z_244 → (∀ r_ : Int32 × q_Fl × q_Bd × q_Pl, z_244 = .inl r_ → r_ = r0) → (∀ (y : Int32 × Int32 × q_Pl) (H : Heap) (locs : List Loc) (ls : Array Slot), z_244 = .inr y → lv_has ls 15 [(12, .int y.2.1), (11, .int y.1), (10, .ref q_10), (9, .ref q_8), (8, .ref q_6), (7, .int x_4), (6, .int x_3), (5, .int x_2.1), (4, .int x_1.1), (0, .ref (a 0)), (1, .int x1), (2, .int x2), (3, .ref adt)] → va_P (dC, dI) vwCl (wSg a cI cJ x_14.2.1 x_14.2.2.1 K y.2.2 I T ++ [(adt, .inl (cI, nt, .inl ft))] ++ [(q_6, .inl (cI, ((if (0 : Int32) < x_1.1 then x_1.1 else 0).toNatClampNeg), .inl z_11.2.2))] ++ [(q_8, .inl (cI, x2.toNatClampNeg, .inl z_12.2))] ++ [(q_10, .inl (cZ, x_4.toNatClampNeg, .inl z_13.2.2))]) H → va_D A (wSg a cI cJ x_14.2.1 x_14.2.2.1 K y.2.2 I T ++ [(adt, .inl (cI, nt, .inl ft))] ++ [(q_6, .inl (cI, ((if (0 : Int32) < x_1.1 then x_1.1 else 0).toNatClampNeg), .inl z_11.2.2))] ++ [(q_8, .inl (cI, x2.toNatClampNeg, .inl z_12.2))] ++ [(q_10, .inl (cZ, x_4.toNatClampNeg, .inl z_13.2.2))]) → va_S A s.heap H locs → W p l e (headSpec wsM_isShown ({ frames := 7, cells := 193, slots := 7412, locals := 161 } : Room)).room s m [.ref (a 0), .int x1, .int x2, .ref adt].toArray below meth c H locs 193 7412 (MQ below (va_Qi (S := Unit) (fun r_ _ => r_ = r0.1) (fun _ => q_E (dC, dI) vwCl (wSg a cI cJ r0.2.1 r0.2.2.1 K r0.2.2.2 I T ++ [(adt, .inl (cI, nt, .inl ft))]) (q_ty3 cI cJ cZ) A) A) [.ref (a 0), .int x1, .int x2, .ref adt].toArray s 193 7412 A) (F0 m 416 ls [])) → W p l e (headSpec wsM_isShown ({ frames := 7, cells := 193, slots := 7412, locals := 161 } : Room)).room s m [.ref (a 0), .int x1, .int x2, .ref adt].toArray below meth c H locs kc_244 ks_244 (MQ below (va_Qi (S := Unit) (fun r_ _ => r_ = r0.1) (fun _ => q_E (dC, dI) vwCl (wSg a cI cJ r0.2.1 r0.2.2.1 K r0.2.2.2 I T ++ [(adt, .inl (cI, nt, .inl ft))]) (q_ty3 cI cJ cZ) A) A) [.ref (a 0), .int x1, .int x2, .ref adt].toArray s 193 7412 A) (F0 m 244 ls []) := by
                intro nn
                induction nn with
                | zero =>
                  intro i11_244 i12_244 N_244 kc_244 ks_244 H locs ls z_244 hl hkc_244 hks_244 hP hD hS hf hret_244 hex_244
                  rw [fl_L_isShown_244] at hf
                  cases hf
                | succ nn ih =>
                  intro i11_244 i12_244 N_244 kc_244 ks_244 H locs ls z_244 hl hkc_244 hks_244 hP hD hS hf hret_244 hex_244
                  rw [fl_L_isShown_244] at hf
                  refine lv_iload hx hb dL_isShown_244 (lv_at hl 0 rfl) ?_
                  refine lv_iload hx hb dL_isShown_246 (lv_at hl 8 rfl) ?_
                  refine lv_icmp_ge (tgt := 416) hx hb dL_isShown_248 (by decide) (fun c_244001 => ?_) (fun c_244001 => ?_)
                  · replace hf := (if_pos c_244001).symm.trans hf
                    refine W.widen (k := 193) (n := 7412) (by omega) (by omega) ?_
                    exact hex_244 (i11_244, i12_244, N_244) H locs ls (Option.some.inj hf).symm (lv_sub hl [0, 1, 2, 3, 4, 5, 6, 7, 8, 9, 10, 11, 12] rfl) hP hD hS
                  · replace hf := (if_neg c_244001).symm.trans hf
                    refine lv_aload hx hb dL_isShown_251 (lv_at hl 4 rfl) ?_
                    refine lv_iload hx hb dL_isShown_253 (lv_at hl 0 rfl) ?_
                    by_cases nc_244002 : ¬ q_ix i12_244 (if (0 : Int32) < x_1.1 then x_1.1 else 0).toNatClampNeg = true
                    · replace hf := (if_neg nc_244002).symm.trans hf
                      cases hf
                    have c_244002 := Classical.not_not.mp nc_244002
                    replace hf := (if_pos c_244002).symm.trans hf
                    refine va_iald hx hb hK hP 19 0 rfl rfl (q_ix_in c_244002) dL_isShown_255 ?_
                    refine lv_if_le (tgt := 270) hx hb dL_isShown_256 (by decide) (fun c_244003 => ?_) (fun c_244003 => ?_)
                    · replace hf := (if_pos c_244003).symm.trans hf
                      refine lv_iconst (v := 0) hx hb dL_isShown_270 (by decide) ?_
                      replace hf := hret_244 (0, x_14.2.1, x_14.2.2.1, N_244) (Option.some.inj hf).symm
                      subst hf
                      have hP9 := hP.sub (ws' := (wSg a cI cJ x_14.2.1 x_14.2.2.1 K N_244 I T ++ [(adt, .inl (cI, nt, .inl ft))])) [0, 1, 2, 3, 4, 5, 6, 7, 8, 9, 10, 11, 12, 13, 14, 15, 16, 17, 18] rfl
                      have hD9 := hD.sub (ws' := (wSg a cI cJ x_14.2.1 x_14.2.2.1 K N_244 I T ++ [(adt, .inl (cI, nt, .inl ft))])) [0, 1, 2, 3, 4, 5, 6, 7, 8, 9, 10, 11, 12, 13, 14, 15, 16, 17, 18] (by decide) rfl
                      refine W.widen (k := 193) (n := 7412) (by omega) (by omega) ?_
                      exact W.zret (v := 0) (ty := .boolean) hx hb hr rfl (fun t ht hW => ⟨⟨0, (), rfl, rfl, ⟨by rw [ht]; exact hP9, va_K.moved hW.alike hK, hD9⟩⟩, hS.F ht⟩) hS.2.2 dL_isShown_271
                    · replace hf := (if_neg c_244003).symm.trans hf
                      refine lv_aload hx hb dL_isShown_259 (lv_at hl 4 rfl) ?_
                      refine lv_iload hx hb dL_isShown_261 (lv_at hl 0 rfl) ?_
                      refine va_iald hx hb hK hP 19 0 rfl rfl (q_ix_in c_244002) dL_isShown_263 ?_
                      refine lv_iload hx hb dL_isShown_264 (lv_at hl 1 rfl) ?_
                      refine lv_iand hx hb dL_isShown_266 ?_
                      refine lv_if_eq (tgt := 272) hx hb dL_isShown_267 (by decide) (fun c_244004 => ?_) (fun c_244004 => ?_)
                      · replace hf := (if_pos c_244004).symm.trans hf
                        refine lv_iload hx hb dL_isShown_272 (lv_at hl 1 rfl) ?_
                        refine lv_aload hx hb dL_isShown_274 (lv_at hl 4 rfl) ?_
                        refine lv_iload hx hb dL_isShown_276 (lv_at hl 0 rfl) ?_
                        refine va_iald hx hb hK hP 19 0 rfl rfl (q_ix_in c_244002) dL_isShown_278 ?_
                        refine lv_ior hx hb dL_isShown_279 ?_
                        refine lv_istore (lv' := [(11, .int (i11_244 ||| (z_11.2.2 i12_244.toNatClampNeg))), (12, .int i12_244), (10, .ref q_10), (9, .ref q_8), (8, .ref q_6), (7, .int x_4), (6, .int x_3), (5, .int x_2.1), (4, .int x_1.1), (0, .ref (a 0)), (1, .int x1), (2, .int x2), (3, .ref adt)]) hx hb dL_isShown_280 hl (by decide) rfl (fun ls hl => ?_)
                        refine lv_iconst (v := 0) hx hb dL_isShown_282 (by decide) ?_
                        refine lv_istore (lv' := [(13, .int 0), (11, .int (i11_244 ||| (z_11.2.2 i12_244.toNatClampNeg))), (12, .int i12_244), (10, .ref q_10), (9, .ref q_8), (8, .ref q_6), (7, .int x_4), (6, .int x_3), (5, .int x_2.1), (4, .int x_1.1), (0, .ref (a 0)), (1, .int x1), (2, .int x2), (3, .ref adt)]) hx hb dL_isShown_283 hl (by decide) rfl (fun ls hl => ?_)
                        have L_285 : ∀ (nn : Nat) (i13_285 : Int32) (H : Heap) (locs : List Loc) (ls : Array Slot) (z_285 : ((Int32 × q_Fl × q_Bd × q_Pl) ⊕ (Int32))), lv_has ls 15 [(13, .int i13_285), (11, .int (i11_244 ||| (z_11.2.2 i12_244.toNatClampNeg))), (12, .int i12_244), (10, .ref q_10), (9, .ref q_8), (8, .ref q_6), (7, .int x_4), (6, .int x_3), (5, .int x_2.1), (4, .int x_1.1), (0, .ref (a 0)), (1, .int x1), (2, .int x2), (3, .ref adt)] → va_P (dC, dI) vwCl (wSg a cI cJ x_14.2.1 x_14.2.2.1 K N_244 I T ++ [(adt, .inl (cI, nt, .inl ft))] ++ [(q_6, .inl (cI, ((if (0 : Int32) < x_1.1 then x_1.1 else 0).toNatClampNeg), .inl z_11.2.2))] ++ [(q_8, .inl (cI, x2.toNatClampNeg, .inl z_12.2))] ++ [(q_10, .inl (cZ, x_4.toNatClampNeg, .inl z_13.2.2))]) H → va_D A (wSg a cI cJ x_14.2.1 x_14.2.2.1 K N_244 I T ++ [(adt, .inl (cI, nt, .inl ft))] ++ [(q_6, .inl (cI, ((if (0 : Int32) < x_1.1 then x_1.1 else 0).toNatClampNeg), .inl z_11.2.2))] ++ [(q_8, .inl (cI, x2.toNatClampNeg, .inl z_12.2))] ++ [(q_10, .inl (cZ, x_4.toNatClampNeg, .inl z_13.2.2))]) → va_S A s.heap H locs → fl_L_isShown_285 x2 x_1 z_11 z_12 x_14 i11_244 i12_244 N_244 nn i13_285 = some z_285 → (∀ r_ : Int32 × q_Fl × q_Bd × q_Pl, z_285 = .inl r_ → r_ = r0) → (∀ (y : Int32) (H : Heap) (locs : List Loc) (ls : Array Slot), z_285 = .inr y → lv_has ls 15 [(13, .int y), (11, .int (i11_244 ||| (z_11.2.2 i12_244.toNatClampNeg))), (12, .int i12_244), (10, .ref q_10), (9, .ref q_8), (8, .ref q_6), (7, .int x_4), (6, .int x_3), (5, .int x_2.1), (4, .int x_1.1), (0, .ref (a 0)), (1, .int x1), (2, .int x2), (3, .ref adt)] → va_P (dC, dI) vwCl (wSg a cI cJ x_14.2.1 x_14.2.2.1 K N_244 I T ++ [(adt, .inl (cI, nt, .inl ft))] ++ [(q_6, .inl (cI, ((if (0 : Int32) < x_1.1 then x_1.1 else 0).toNatClampNeg), .inl z_11.2.2))] ++ [(q_8, .inl (cI, x2.toNatClampNeg, .inl z_12.2))] ++ [(q_10, .inl (cZ, x_4.toNatClampNeg, .inl z_13.2.2))]) H → va_D A (wSg a cI cJ x_14.2.1 x_14.2.2.1 K N_244 I T ++ [(adt, .inl (cI, nt, .inl ft))] ++ [(q_6, .inl (cI, ((if (0 : Int32) < x_1.1 then x_1.1 else 0).toNatClampNeg), .inl z_11.2.2))] ++ [(q_8, .inl (cI, x2.toNatClampNeg, .inl z_12.2))] ++ [(q_10, .inl (cZ, x_4.toNatClampNeg, .inl z_13.2.2))]) → va_S A s.heap H locs → W p l e (headSpec wsM_isShown ({ frames := 7, cells := 193, slots := 7412, locals := 161 } : Room)).room s m [.ref (a 0), .int x1, .int x2, .ref adt].toArray below meth c H locs kc_244 ks_244 (MQ below (va_Qi (S := Unit) (fun r_ _ => r_ = r0.1) (fun _ => q_E (dC, dI) vwCl (wSg a cI cJ r0.2.1 r0.2.2.1 K r0.2.2.2 I T ++ [(adt, .inl (cI, nt, .inl ft))]) (q_ty3 cI cJ cZ) A) A) [.ref (a 0), .int x1, .int x2, .ref adt].toArray s 193 7412 A) (F0 m 333 ls [])) → W p l e (headSpec wsM_isShown ({ frames := 7, cells := 193, slots := 7412, locals := 161 } : Room)).room s m [.ref (a 0), .int x1, .int x2, .ref adt].toArray below meth c H locs kc_244 ks_244 (MQ below (va_Qi (S := Unit) (fun r_ _ => r_ = r0.1) (fun _ => q_E (dC, dI) vwCl (wSg a cI cJ r0.2.1 r0.2.2.1 K r0.2.2.2 I T ++ [(adt, .inl (cI, nt, .inl ft))]) (q_ty3 cI cJ cZ) A) A) [.ref (a 0), .int x1, .int x2, .ref adt].toArray s 193 7412 A) (F0 m 285 ls []) := by
                          intro nn
                          induction nn with
                          | zero =>
                            intro i13_285 H locs ls z_285 hl hP hD hS hf hret_285 hex_285
                            rw [fl_L_isShown_285] at hf
                            cases hf
                          | succ nn ih =>
                            intro i13_285 H locs ls z_285 hl hP hD hS hf hret_285 hex_285
                            rw [fl_L_isShown_285] at hf
                            refine lv_iload hx hb dL_isShown_285 (lv_at hl 0 rfl) ?_
                            refine lv_iload_n hx hb dL_isShown_287 rfl (lv_at hl 12 rfl) ?_
                            refine lv_icmp_ge (tgt := 333) hx hb dL_isShown_288 (by decide) (fun c_285001 => ?_) (fun c_285001 => ?_)
                            · replace hf := (if_pos c_285001).symm.trans hf
                              exact hex_285 i13_285 H locs ls (Option.some.inj hf).symm (lv_sub hl [0, 1, 2, 3, 4, 5, 6, 7, 8, 9, 10, 11, 12, 13] rfl) hP hD hS
                            · replace hf := (if_neg c_285001).symm.trans hf
                              refine lv_iload hx hb dL_isShown_291 (lv_at hl 2 rfl) ?_
                              refine lv_iload hx hb dL_isShown_293 (lv_at hl 9 rfl) ?_
                              refine lv_iconst (v := 1) hx hb dL_isShown_295 (by decide) ?_
                              refine lv_isub hx hb dL_isShown_296 ?_
                              refine lv_icmp_ne (tgt := 333) hx hb dL_isShown_297 (by decide) (fun c_285002 => ?_) (fun c_285002 => ?_)
                              · replace hf := (if_neg c_285002).symm.trans hf
                                exact hex_285 i13_285 H locs ls (Option.some.inj hf).symm (lv_sub hl [0, 1, 2, 3, 4, 5, 6, 7, 8, 9, 10, 11, 12, 13] rfl) hP hD hS
                              · replace hf := (if_pos c_285002).symm.trans hf
                                refine lv_iload hx hb dL_isShown_300 (lv_at hl 1 rfl) ?_
                                refine lv_iload hx hb dL_isShown_302 (lv_at hl 0 rfl) ?_
                                refine lv_ishr hx hb dL_isShown_304 ?_
                                refine lv_iconst (v := 1) hx hb dL_isShown_305 (by decide) ?_
                                refine lv_iand hx hb dL_isShown_306 ?_
                                refine lv_if_ne (tgt := 327) hx hb dL_isShown_307 (by decide) (fun c_285003 => ?_) (fun c_285003 => ?_)
                                · replace hf := (if_neg c_285003).symm.trans hf
                                  refine lv_iinc (v := i13_285 + 1) (lv' := [(13, .int (i13_285 + 1)), (11, .int (i11_244 ||| (z_11.2.2 i12_244.toNatClampNeg))), (12, .int i12_244), (10, .ref q_10), (9, .ref q_8), (8, .ref q_6), (7, .int x_4), (6, .int x_3), (5, .int x_2.1), (4, .int x_1.1), (0, .ref (a 0)), (1, .int x1), (2, .int x2), (3, .ref adt)]) hx hb dL_isShown_327 hl (k := 0) rfl rfl (by decide) rfl (fun ls hl => ?_)
                                  refine lv_goto (tgt := 285) hx hb dL_isShown_330 (by decide) ?_
                                  exact ih (i13_285 + 1) H locs ls _ (lv_sub hl [0, 1, 2, 3, 4, 5, 6, 7, 8, 9, 10, 11, 12, 13] rfl) hP hD hS hf hret_285 hex_285
                                · replace hf := (if_pos c_285003).symm.trans hf
                                  refine lv_aload_n hx hb dL_isShown_310 rfl (lv_at hl 10 rfl) ?_
                                  refine lv_iload hx hb dL_isShown_311 (lv_at hl 0 rfl) ?_
                                  refine lv_iconst (v := 0) hx hb dL_isShown_313 (by decide) ?_
                                  obtain ⟨x_285004, hx_285004, hf⟩ := Option.bind_eq_some_iff.mp hf
                                  refine q_rV (As := [.int i13_285, .int 0]) (rest := []) ⟨hx, hb, hml, hown, hts⟩ (c_X5_column l dC dI cI cJ a x_14.2.1 x_14.2.2.1 K N_244 I T i13_285 0 x_285004 hx_285004) (cwV 2 hts gM_isShown_X5_column rfl rfl rfl (by decide +kernel) ⟨Nat.le_of_ble_eq_true rfl, Nat.le_of_ble_eq_true rfl⟩) (hK.sub (tys' := q_ty cI cJ) [0, 1] rfl) hn (hP.sub (ws' := (wSg a cI cJ x_14.2.1 x_14.2.2.1 K N_244 I T)) [0, 1, 2, 3, 4, 5, 6, 7, 8, 9, 10, 11, 12, 13, 14, 15, 16, 17] rfl) (ci := 5) rfl rfl rfl hl.1 rfl (Nat.le_of_ble_eq_true rfl) dL_isShown_314 ⟨by show kc_244 ≤ 193; omega, by show ks_244 ≤ 7412; omega⟩ ?_
                                  refine lv_aload hx hb dL_isShown_317 (lv_at hl 4 rfl) ?_
                                  refine lv_iload hx hb dL_isShown_319 (lv_at hl 0 rfl) ?_
                                  by_cases nc_285005 : ¬ q_ix i13_285 x2.toNatClampNeg = true
                                  · replace hf := (if_neg nc_285005).symm.trans hf
                                    cases hf
                                  have c_285005 := Classical.not_not.mp nc_285005
                                  replace hf := (if_pos c_285005).symm.trans hf
                                  refine va_iald hx hb hK hP 20 0 rfl rfl (q_ix_in c_285005) dL_isShown_321 ?_
                                  refine lv_icmp_eq (tgt := 327) hx hb dL_isShown_322 (by decide) (fun c_285006 => ?_) (fun c_285006 => ?_)
                                  · replace hf := (if_pos c_285006).symm.trans hf
                                    refine lv_iinc (v := i13_285 + 1) (lv' := [(13, .int (i13_285 + 1)), (11, .int (i11_244 ||| (z_11.2.2 i12_244.toNatClampNeg))), (12, .int i12_244), (10, .ref q_10), (9, .ref q_8), (8, .ref q_6), (7, .int x_4), (6, .int x_3), (5, .int x_2.1), (4, .int x_1.1), (0, .ref (a 0)), (1, .int x1), (2, .int x2), (3, .ref adt)]) hx hb dL_isShown_327 hl (k := 0) rfl rfl (by decide) rfl (fun ls hl => ?_)
                                    refine lv_goto (tgt := 285) hx hb dL_isShown_330 (by decide) ?_
                                    exact ih (i13_285 + 1) H locs ls _ (lv_sub hl [0, 1, 2, 3, 4, 5, 6, 7, 8, 9, 10, 11, 12, 13] rfl) hP hD hS hf hret_285 hex_285
                                  · replace hf := (if_neg c_285006).symm.trans hf
                                    refine lv_iconst (v := 0) hx hb dL_isShown_325 (by decide) ?_
                                    replace hf := hret_285 (0, x_14.2.1, x_14.2.2.1, N_244) (Option.some.inj hf).symm
                                    subst hf
                                    have hP9 := hP.sub (ws' := (wSg a cI cJ x_14.2.1 x_14.2.2.1 K N_244 I T ++ [(adt, .inl (cI, nt, .inl ft))])) [0, 1, 2, 3, 4, 5, 6, 7, 8, 9, 10, 11, 12, 13, 14, 15, 16, 17, 18] rfl
                                    have hD9 := hD.sub (ws' := (wSg a cI cJ x_14.2.1 x_14.2.2.1 K N_244 I T ++ [(adt, .inl (cI, nt, .inl ft))])) [0, 1, 2, 3, 4, 5, 6, 7, 8, 9, 10, 11, 12, 13, 14, 15, 16, 17, 18] (by decide) rfl
                                    refine W.widen (k := 193) (n := 7412) (by omega) (by omega) ?_
                                    exact W.zret (v := 0) (ty := .boolean) hx hb hr rfl (fun t ht hW => ⟨⟨0, (), rfl, rfl, ⟨by rw [ht]; exact hP9, va_K.moved hW.alike hK, hD9⟩⟩, hS.F ht⟩) hS.2.2 dL_isShown_326
                        obtain ⟨z_244005, hz_244005, hf⟩ := Option.bind_eq_some_iff.mp hf
                        refine L_285 1000 0 H locs ls z_244005 (lv_sub hl [0, 1, 2, 3, 4, 5, 6, 7, 8, 9, 10, 11, 12, 13] rfl) hP hD hS hz_244005 (fun r_ hz => by rw [hz] at hf; exact hret_244 r_ (Option.some.inj hf).symm) (fun y_244006 H locs ls hz hl hP hD hS => ?_)
                        subst hz
                        simp only [Sum.elim_inr] at hf
                        refine lv_iload hx hb dL_isShown_333 (lv_at hl 2 rfl) ?_
                        refine lv_iload hx hb dL_isShown_335 (lv_at hl 9 rfl) ?_
                        refine lv_iconst (v := 1) hx hb dL_isShown_337 (by decide) ?_
                        refine lv_isub hx hb dL_isShown_338 ?_
                        refine lv_icmp_ne (tgt := 345) hx hb dL_isShown_339 (by decide) (fun c_244007 => ?_) (fun c_244007 => ?_)
                        · replace hf := (if_neg c_244007).symm.trans hf
                          refine lv_iload_n hx hb dL_isShown_345 rfl (lv_at hl 12 rfl) ?_
                          by_cases nc_244008 : ¬ q_ix x2 65 = true
                          · replace hf := (if_neg nc_244008).symm.trans hf
                            cases hf
                          have c_244008 := Classical.not_not.mp nc_244008
                          replace hf := (if_pos c_244008).symm.trans hf
                          have kc_244008 := q_ixlt c_244008
                          refine va_newa (atype := .int) (ty := .int) (a0 := (x2.toNatClampNeg, .inl (fun _ => 0))) (N' := x2.toNatClampNeg) hx hb (hts (.arrayClass .int) (by decide +kernel)) rfl hK hP hD hS hA (fun _ => rfl) kc_244008.1 rfl (by show x2.toNatClampNeg * 4 ≤ 536870912; omega) (by show kc_244 + 1 ≤ 193; omega) (by show ks_244 + x2.toNatClampNeg ≤ 7412; omega) dL_isShown_346 (fun q_244009 cN H hK2 hP hD hS => ?_)
                          obtain rfl := q_sameI3 hK2
                          refine W.widen (k := kc_244 + 1) (n := ks_244 + 64) (by omega) (by omega) ?_
                          have hP : va_P (dC, dI) vwCl (wSg a cI cJ x_14.2.1 x_14.2.2.1 K N_244 I T ++ [(adt, .inl (cI, nt, .inl ft))] ++ [(q_6, .inl (cI, ((if (0 : Int32) < x_1.1 then x_1.1 else 0).toNatClampNeg), .inl z_11.2.2))] ++ [(q_8, .inl (cI, x2.toNatClampNeg, .inl z_12.2))] ++ [(q_10, .inl (cZ, x_4.toNatClampNeg, .inl z_13.2.2))] ++ [(q_244009, .inl (cI, x2.toNatClampNeg, .inl (fun _ => 0)))]) H := hP
                          have hD : va_D A (wSg a cI cJ x_14.2.1 x_14.2.2.1 K N_244 I T ++ [(adt, .inl (cI, nt, .inl ft))] ++ [(q_6, .inl (cI, ((if (0 : Int32) < x_1.1 then x_1.1 else 0).toNatClampNeg), .inl z_11.2.2))] ++ [(q_8, .inl (cI, x2.toNatClampNeg, .inl z_12.2))] ++ [(q_10, .inl (cZ, x_4.toNatClampNeg, .inl z_13.2.2))] ++ [(q_244009, .inl (cI, x2.toNatClampNeg, .inl (fun _ => 0)))]) := hD
                          refine lv_astore (lv' := [(13, .ref q_244009), (11, .int (i11_244 ||| (z_11.2.2 i12_244.toNatClampNeg))), (12, .int i12_244), (10, .ref q_10), (9, .ref q_8), (8, .ref q_6), (7, .int x_4), (6, .int x_3), (5, .int x_2.1), (4, .int x_1.1), (0, .ref (a 0)), (1, .int x1), (2, .int x2), (3, .ref adt)]) hx hb dL_isShown_348 hl (by decide) rfl (fun ls hl => ?_)
                          refine lv_iconst (v := 0) hx hb dL_isShown_350 (by decide) ?_
                          refine lv_istore (lv' := [(14, .int 0), (13, .ref q_244009), (11, .int (i11_244 ||| (z_11.2.2 i12_244.toNatClampNeg))), (12, .int i12_244), (10, .ref q_10), (9, .ref q_8), (8, .ref q_6), (7, .int x_4), (6, .int x_3), (5, .int x_2.1), (4, .int x_1.1), (0, .ref (a 0)), (1, .int x1), (2, .int x2), (3, .ref adt)]) hx hb dL_isShown_351 hl (by decide) rfl (fun ls hl => ?_)
                          have L_353 : ∀ (nn : Nat) (i14_353 : Int32) (A_q_244009_353 : q_IA) (H : Heap) (locs : List Loc) (ls : Array Slot) (z_353 : (Int32 × q_IA)), lv_has ls 15 [(14, .int i14_353), (13, .ref q_244009), (11, .int (i11_244 ||| (z_11.2.2 i12_244.toNatClampNeg))), (12, .int i12_244), (10, .ref q_10), (9, .ref q_8), (8, .ref q_6), (7, .int x_4), (6, .int x_3), (5, .int x_2.1), (4, .int x_1.1), (0, .ref (a 0)), (1, .int x1), (2, .int x2), (3, .ref adt)] → va_P (dC, dI) vwCl (wSg a cI cJ x_14.2.1 x_14.2.2.1 K N_244 I T ++ [(adt, .inl (cI, nt, .inl ft))] ++ [(q_6, .inl (cI, ((if (0 : Int32) < x_1.1 then x_1.1 else 0).toNatClampNeg), .inl z_11.2.2))] ++ [(q_8, .inl (cI, x2.toNatClampNeg, .inl z_12.2))] ++ [(q_10, .inl (cZ, x_4.toNatClampNeg, .inl z_13.2.2))] ++ [(q_244009, .inl (cI, x2.toNatClampNeg, .inl A_q_244009_353))]) H → va_D A (wSg a cI cJ x_14.2.1 x_14.2.2.1 K N_244 I T ++ [(adt, .inl (cI, nt, .inl ft))] ++ [(q_6, .inl (cI, ((if (0 : Int32) < x_1.1 then x_1.1 else 0).toNatClampNeg), .inl z_11.2.2))] ++ [(q_8, .inl (cI, x2.toNatClampNeg, .inl z_12.2))] ++ [(q_10, .inl (cZ, x_4.toNatClampNeg, .inl z_13.2.2))] ++ [(q_244009, .inl (cI, x2.toNatClampNeg, .inl A_q_244009_353))]) → va_S A s.heap H locs → fl_L_isShown_353 x2 z_11 z_12 x_14 i11_244 i12_244 nn i14_353 A_q_244009_353 = some z_353 → (∀ (H : Heap) (locs : List Loc) (ls : Array Slot), lv_has ls 15 [(14, .int z_353.1), (13, .ref q_244009), (11, .int (i11_244 ||| (z_11.2.2 i12_244.toNatClampNeg))), (12, .int i12_244), (10, .ref q_10), (9, .ref q_8), (8, .ref q_6), (7, .int x_4), (6, .int x_3), (5, .int x_2.1), (4, .int x_1.1), (0, .ref (a 0)), (1, .int x1), (2, .int x2), (3, .ref adt)] → va_P (dC, dI) vwCl (wSg a cI cJ x_14.2.1 x_14.2.2.1 K N_244 I T ++ [(adt, .inl (cI, nt, .inl ft))] ++ [(q_6, .inl (cI, ((if (0 : Int32) < x_1.1 then x_1.1 else 0).toNatClampNeg), .inl z_11.2.2))] ++ [(q_8, .inl (cI, x2.toNatClampNeg, .inl z_12.2))] ++ [(q_10, .inl (cZ, x_4.toNatClampNeg, .inl z_13.2.2))] ++ [(q_244009, .inl (cI, x2.toNatClampNeg, .inl z_353.2))]) H → va_D A (wSg a cI cJ x_14.2.1 x_14.2.2.1 K N_244 I T ++ [(adt, .inl (cI, nt, .inl ft))] ++ [(q_6, .inl (cI, ((if (0 : Int32) < x_1.1 then x_1.1 else 0).toNatClampNeg), .inl z_11.2.2))] ++ [(q_8, .inl (cI, x2.toNatClampNeg, .inl z_12.2))] ++ [(q_10, .inl (cZ, x_4.toNatClampNeg, .inl z_13.2.2))] ++ [(q_244009, .inl (cI, x2.toNatClampNeg, .inl z_353.2))]) → va_S A s.heap H locs → W p l e (headSpec wsM_isShown ({ frames := 7, cells := 193, slots := 7412, locals := 161 } : Room)).room s m [.ref (a 0), .int x1, .int x2, .ref adt].toArray below meth c H locs (kc_244 + 1) (ks_244 + 64) (MQ below (va_Qi (S := Unit) (fun r_ _ => r_ = r0.1) (fun _ => q_E (dC, dI) vwCl (wSg a cI cJ r0.2.1 r0.2.2.1 K r0.2.2.2 I T ++ [(adt, .inl (cI, nt, .inl ft))]) (q_ty3 cI cJ cZ) A) A) [.ref (a 0), .int x1, .int x2, .ref adt].toArray s 193 7412 A) (F0 m 396 ls [])) → W p l e (headSpec wsM_isShown ({ frames := 7, cells := 193, slots := 7412, locals := 161 } : Room)).room s m [.ref (a 0), .int x1, .int x2, .ref adt].toArray below meth c H locs (kc_244 + 1) (ks_244 + 64) (MQ below (va_Qi (S := Unit) (fun r_ _ => r_ = r0.1) (fun _ => q_E (dC, dI) vwCl (wSg a cI cJ r0.2.1 r0.2.2.1 K r0.2.2.2 I T ++ [(adt, .inl (cI, nt, .inl ft))]) (q_ty3 cI cJ cZ) A) A) [.ref (a 0), .int x1, .int x2, .ref adt].toArray s 193 7412 A) (F0 m 353 ls []) := by
                            intro nn
                            induction nn with
                            | zero =>
                              intro i14_353 A_q_244009_353 H locs ls z_353 hl hP hD hS hf hex_353
                              rw [fl_L_isShown_353] at hf
                              cases hf
                            | succ nn ih =>
                              intro i14_353 A_q_244009_353 H locs ls z_353 hl hP hD hS hf hex_353
                              rw [fl_L_isShown_353] at hf
                              refine lv_iload hx hb dL_isShown_353 (lv_at hl 0 rfl) ?_
                              refine lv_iload_n hx hb dL_isShown_355 rfl (lv_at hl 13 rfl) ?_
                              refine lv_icmp_ge (tgt := 396) hx hb dL_isShown_356 (by decide) (fun c_353001 => ?_) (fun c_353001 => ?_)
                              · replace hf := (if_pos c_353001).symm.trans hf
                                replace hf := Option.some.inj hf
                                subst hf
                                exact hex_353 H locs ls (lv_sub hl [0, 1, 2, 3, 4, 5, 6, 7, 8, 9, 10, 11, 12, 13, 14] rfl) hP hD hS
                              · replace hf := (if_neg c_353001).symm.trans hf
                                refine lv_aload hx hb dL_isShown_359 (lv_at hl 1 rfl) ?_
                                refine lv_iload hx hb dL_isShown_361 (lv_at hl 0 rfl) ?_
                                refine lv_iload hx hb dL_isShown_363 (lv_at hl 2 rfl) ?_
                                refine lv_iload hx hb dL_isShown_365 (lv_at hl 0 rfl) ?_
                                refine lv_ishr hx hb dL_isShown_367 ?_
                                refine lv_iconst (v := 1) hx hb dL_isShown_368 (by decide) ?_
                                refine lv_iand hx hb dL_isShown_369 ?_
                                refine lv_iconst (v := 1) hx hb dL_isShown_370 (by decide) ?_
                                refine lv_icmp_ne (tgt := 384) hx hb dL_isShown_371 (by decide) (fun c_353002 => ?_) (fun c_353002 => ?_)
                                · replace hf := (if_neg c_353002).symm.trans hf
                                  refine lv_aload hx hb dL_isShown_384 (lv_at hl 5 rfl) ?_
                                  refine lv_iload hx hb dL_isShown_386 (lv_at hl 0 rfl) ?_
                                  by_cases nc_353003 : ¬ q_ix i14_353 x2.toNatClampNeg = true
                                  · replace hf := (if_neg nc_353003).symm.trans hf
                                    cases hf
                                  have c_353003 := Classical.not_not.mp nc_353003
                                  replace hf := (if_pos c_353003).symm.trans hf
                                  refine va_iald hx hb hK hP 20 0 rfl rfl (q_ix_in c_353003) dL_isShown_388 ?_
                                  refine va_iast hx hb hK hP hD hS 22 0 rfl rfl (q_ix_in c_353003) dL_isShown_389 (fun H locs hP hD hS => ?_)
                                  have hP : va_P (dC, dI) vwCl (wSg a cI cJ x_14.2.1 x_14.2.2.1 K N_244 I T ++ [(adt, .inl (cI, nt, .inl ft))] ++ [(q_6, .inl (cI, ((if (0 : Int32) < x_1.1 then x_1.1 else 0).toNatClampNeg), .inl z_11.2.2))] ++ [(q_8, .inl (cI, x2.toNatClampNeg, .inl z_12.2))] ++ [(q_10, .inl (cZ, x_4.toNatClampNeg, .inl z_13.2.2))] ++ [(q_244009, .inl (cI, x2.toNatClampNeg, .inl (upd A_q_244009_353 i14_353.toNatClampNeg (z_12.2 i14_353.toNatClampNeg))))]) H := hP
                                  have hD : va_D A (wSg a cI cJ x_14.2.1 x_14.2.2.1 K N_244 I T ++ [(adt, .inl (cI, nt, .inl ft))] ++ [(q_6, .inl (cI, ((if (0 : Int32) < x_1.1 then x_1.1 else 0).toNatClampNeg), .inl z_11.2.2))] ++ [(q_8, .inl (cI, x2.toNatClampNeg, .inl z_12.2))] ++ [(q_10, .inl (cZ, x_4.toNatClampNeg, .inl z_13.2.2))] ++ [(q_244009, .inl (cI, x2.toNatClampNeg, .inl (upd A_q_244009_353 i14_353.toNatClampNeg (z_12.2 i14_353.toNatClampNeg))))]) := hD
                                  refine lv_iinc (v := i14_353 + 1) (lv' := [(14, .int (i14_353 + 1)), (13, .ref q_244009), (11, .int (i11_244 ||| (z_11.2.2 i12_244.toNatClampNeg))), (12, .int i12_244), (10, .ref q_10), (9, .ref q_8), (8, .ref q_6), (7, .int x_4), (6, .int x_3), (5, .int x_2.1), (4, .int x_1.1), (0, .ref (a 0)), (1, .int x1), (2, .int x2), (3, .ref adt)]) hx hb dL_isShown_390 hl (k := 0) rfl rfl (by decide) rfl (fun ls hl => ?_)
                                  refine lv_goto (tgt := 353) hx hb dL_isShown_393 (by decide) ?_
                                  exact ih (i14_353 + 1) (upd A_q_244009_353 i14_353.toNatClampNeg (z_12.2 i14_353.toNatClampNeg)) H locs ls _ (lv_sub hl [0, 1, 2, 3, 4, 5, 6, 7, 8, 9, 10, 11, 12, 13, 14] rfl) hP hD hS hf hex_353
                                · replace hf := (if_pos c_353002).symm.trans hf
                                  refine lv_aload_n hx hb dL_isShown_374 rfl (lv_at hl 11 rfl) ?_
                                  refine lv_iload hx hb dL_isShown_375 (lv_at hl 0 rfl) ?_
                                  refine lv_iconst (v := 0) hx hb dL_isShown_377 (by decide) ?_
                                  obtain ⟨x_353004, hx_353004, hf⟩ := Option.bind_eq_some_iff.mp hf
                                  refine q_rV (As := [.int i14_353, .int 0]) (rest := [.int i14_353, .ref q_244009]) ⟨hx, hb, hml, hown, hts⟩ (c_X5_column l dC dI cI cJ a x_14.2.1 x_14.2.2.1 K N_244 I T i14_353 0 x_353004 hx_353004) (cwV 2 hts gM_isShown_X5_column rfl rfl rfl (by decide +kernel) ⟨Nat.le_of_ble_eq_true rfl, Nat.le_of_ble_eq_true rfl⟩) (hK.sub (tys' := q_ty cI cJ) [0, 1] rfl) hn (hP.sub (ws' := (wSg a cI cJ x_14.2.1 x_14.2.2.1 K N_244 I T)) [0, 1, 2, 3, 4, 5, 6, 7, 8, 9, 10, 11, 12, 13, 14, 15, 16, 17] rfl) (ci := 5) rfl rfl rfl hl.1 rfl (Nat.le_of_ble_eq_true rfl) dL_isShown_378 ⟨by show kc_244 + 1 ≤ 193; omega, by show ks_244 + 64 ≤ 7412; omega⟩ ?_
                                  refine lv_goto (tgt := 389) hx hb dL_isShown_381 (by decide) ?_
                                  by_cases nc_353005 : ¬ q_ix i14_353 x2.toNatClampNeg = true
                                  · replace hf := (if_neg nc_353005).symm.trans hf
                                    cases hf
                                  have c_353005 := Classical.not_not.mp nc_353005
                                  replace hf := (if_pos c_353005).symm.trans hf
                                  refine va_iast hx hb hK hP hD hS 22 0 rfl rfl (q_ix_in c_353005) dL_isShown_389 (fun H locs hP hD hS => ?_)
                                  have hP : va_P (dC, dI) vwCl (wSg a cI cJ x_14.2.1 x_14.2.2.1 K N_244 I T ++ [(adt, .inl (cI, nt, .inl ft))] ++ [(q_6, .inl (cI, ((if (0 : Int32) < x_1.1 then x_1.1 else 0).toNatClampNeg), .inl z_11.2.2))] ++ [(q_8, .inl (cI, x2.toNatClampNeg, .inl z_12.2))] ++ [(q_10, .inl (cZ, x_4.toNatClampNeg, .inl z_13.2.2))] ++ [(q_244009, .inl (cI, x2.toNatClampNeg, .inl (upd A_q_244009_353 i14_353.toNatClampNeg x_353004)))]) H := hP
                                  have hD : va_D A (wSg a cI cJ x_14.2.1 x_14.2.2.1 K N_244 I T ++ [(adt, .inl (cI, nt, .inl ft))] ++ [(q_6, .inl (cI, ((if (0 : Int32) < x_1.1 then x_1.1 else 0).toNatClampNeg), .inl z_11.2.2))] ++ [(q_8, .inl (cI, x2.toNatClampNeg, .inl z_12.2))] ++ [(q_10, .inl (cZ, x_4.toNatClampNeg, .inl z_13.2.2))] ++ [(q_244009, .inl (cI, x2.toNatClampNeg, .inl (upd A_q_244009_353 i14_353.toNatClampNeg x_353004)))]) := hD
                                  refine lv_iinc (v := i14_353 + 1) (lv' := [(14, .int (i14_353 + 1)), (13, .ref q_244009), (11, .int (i11_244 ||| (z_11.2.2 i12_244.toNatClampNeg))), (12, .int i12_244), (10, .ref q_10), (9, .ref q_8), (8, .ref q_6), (7, .int x_4), (6, .int x_3), (5, .int x_2.1), (4, .int x_1.1), (0, .ref (a 0)), (1, .int x1), (2, .int x2), (3, .ref adt)]) hx hb dL_isShown_390 hl (k := 0) rfl rfl (by decide) rfl (fun ls hl => ?_)
                                  refine lv_goto (tgt := 353) hx hb dL_isShown_393 (by decide) ?_
                                  exact ih (i14_353 + 1) (upd A_q_244009_353 i14_353.toNatClampNeg x_353004) H locs ls _ (lv_sub hl [0, 1, 2, 3, 4, 5, 6, 7, 8, 9, 10, 11, 12, 13, 14] rfl) hP hD hS hf hex_353
                          obtain ⟨z_244010, hz_244010, hf⟩ := Option.bind_eq_some_iff.mp hf
                          refine L_353 1000 0 (fun _ => 0) H locs ls z_244010 (lv_sub hl [0, 1, 2, 3, 4, 5, 6, 7, 8, 9, 10, 11, 12, 13, 14] rfl) hP hD hS hz_244010 (fun H locs ls hl hP hD hS => ?_)
                          refine lv_aload_n hx hb dL_isShown_396 rfl (lv_at hl 11 rfl) ?_
                          refine lv_aload hx hb dL_isShown_397 (lv_at hl 1 rfl) ?_
                          refine lv_aload hx hb dL_isShown_399 (lv_at hl 4 rfl) ?_
                          refine lv_aload_n hx hb dL_isShown_401 rfl (lv_at hl 14 rfl) ?_
                          obtain ⟨x_244011, hx_244011, hf⟩ := Option.bind_eq_some_iff.mp hf
                          have hPc := hP.sub (ws' := (wSg a cI cJ x_14.2.1 x_14.2.2.1 K N_244 I T ++ [(q_244009, .inl (cI, x2.toNatClampNeg, .inl z_244010.2))] ++ [(q_10, .inl (cZ, x_4.toNatClampNeg, .inl z_13.2.2))] ++ [(adt, .inl (cI, nt, .inl ft))])) [0, 1, 2, 3, 4, 5, 6, 7, 8, 9, 10, 11, 12, 13, 14, 15, 16, 17, 22, 21, 18] rfl
                          have hDc := hD.sub (ws' := (wSg a cI cJ x_14.2.1 x_14.2.2.1 K N_244 I T ++ [(q_244009, .inl (cI, x2.toNatClampNeg, .inl z_244010.2))] ++ [(q_10, .inl (cZ, x_4.toNatClampNeg, .inl z_13.2.2))] ++ [(adt, .inl (cI, nt, .inl ft))])) [0, 1, 2, 3, 4, 5, 6, 7, 8, 9, 10, 11, 12, 13, 14, 15, 16, 17, 22, 21, 18] (by decide) rfl
                          have hFc := va_free (wc := (wSg a cI cJ x_14.2.1 x_14.2.2.1 K N_244 I T ++ [(q_244009, .inl (cI, x2.toNatClampNeg, .inl z_244010.2))] ++ [(q_10, .inl (cZ, x_4.toNatClampNeg, .inl z_13.2.2))] ++ [(adt, .inl (cI, nt, .inl ft))])) hD hS hA [0, 1, 2, 3, 4, 5, 6, 7, 8, 9, 10, 11, 12, 13, 14, 15, 16, 17, 22, 21, 18] rfl
                          refine va_calli (va_runS (As := [.ref (a 0), .ref q_244009, .ref q_10, .ref adt]) (rest := []) ⟨hx, hb, hml, hown, hts⟩ (c_L_isRight l dC dI cI cJ cZ a q_244009 q_10 adt H.size x_14.2.1 x_14.2.2.1 K N_244 I T x2.toNatClampNeg z_244010.2 x_4.toNatClampNeg z_13.2.2 nt ft x_244011 hx_244011) (va_cwS 4 hts gM_isShown_L_isRight rfl rfl rfl (by decide +kernel) ⟨Nat.le_of_ble_eq_true rfl, Nat.le_of_ble_eq_true rfl⟩) ⟨q_Wblind, q_Wpre hPc hK hn hDc⟩ rfl rfl hl.1 rfl (lv_room (Nat.le_of_ble_eq_true rfl)) dL_isShown_402 ⟨by show kc_244 + 1 + 18 ≤ 193; omega, by show ks_244 + 64 + 658 ≤ 7412; omega⟩) hS (fun q _ h => hFc q h) hFc (fun r_9 u t H1 locs ht hvm hw hB hz1 hk1 hS => ?_)
                          subst hw
                          obtain ⟨hP1, hK1, hD1⟩ := hB
                          rw [ht] at hP1
                          obtain ⟨hP, hD⟩ := va_join (wr := ([(q_6, .inl (cI, ((if (0 : Int32) < x_1.1 then x_1.1 else 0).toNatClampNeg), .inl z_11.2.2))] ++ [(q_8, .inl (cI, x2.toNatClampNeg, .inl z_12.2))])) (w1 := (wSg a cI cJ x_14.2.1 x_14.2.2.1 K x_244011.2 I T ++ [(q_244009, .inl (cI, x2.toNatClampNeg, .inl z_244010.2))] ++ [(q_10, .inl (cZ, x_4.toNatClampNeg, .inl z_13.2.2))] ++ [(adt, .inl (cI, nt, .inl ft))])) hP hD [0, 1, 2, 3, 4, 5, 6, 7, 8, 9, 10, 11, 12, 13, 14, 15, 16, 17, 22, 21, 18] [19, 20] rfl rfl (by decide) (by decide) hk1 hFc hP1 hD1
                          generalize H1 = H at hP hS ⊢
                          replace hP := hP.sub (ws' := (wSg a cI cJ x_14.2.1 x_14.2.2.1 K x_244011.2 I T ++ [(adt, .inl (cI, nt, .inl ft))] ++ [(q_6, .inl (cI, ((if (0 : Int32) < x_1.1 then x_1.1 else 0).toNatClampNeg), .inl z_11.2.2))] ++ [(q_8, .inl (cI, x2.toNatClampNeg, .inl z_12.2))] ++ [(q_10, .inl (cZ, x_4.toNatClampNeg, .inl z_13.2.2))] ++ [(q_244009, .inl (cI, x2.toNatClampNeg, .inl z_244010.2))])) [2, 3, 4, 5, 6, 7, 8, 9, 10, 11, 12, 13, 14, 15, 16, 17, 18, 19, 22, 0, 1, 21, 20] rfl
                          replace hD := hD.sub (ws' := (wSg a cI cJ x_14.2.1 x_14.2.2.1 K x_244011.2 I T ++ [(adt, .inl (cI, nt, .inl ft))] ++ [(q_6, .inl (cI, ((if (0 : Int32) < x_1.1 then x_1.1 else 0).toNatClampNeg), .inl z_11.2.2))] ++ [(q_8, .inl (cI, x2.toNatClampNeg, .inl z_12.2))] ++ [(q_10, .inl (cZ, x_4.toNatClampNeg, .inl z_13.2.2))] ++ [(q_244009, .inl (cI, x2.toNatClampNeg, .inl z_244010.2))])) [2, 3, 4, 5, 6, 7, 8, 9, 10, 11, 12, 13, 14, 15, 16, 17, 18, 19, 22, 0, 1, 21, 20] (by decide) rfl
                          have hP : va_P (dC, dI) vwCl (wSg a cI cJ x_14.2.1 x_14.2.2.1 K x_244011.2 I T ++ [(adt, .inl (cI, nt, .inl ft))] ++ [(q_6, .inl (cI, ((if (0 : Int32) < x_1.1 then x_1.1 else 0).toNatClampNeg), .inl z_11.2.2))] ++ [(q_8, .inl (cI, x2.toNatClampNeg, .inl z_12.2))] ++ [(q_10, .inl (cZ, x_4.toNatClampNeg, .inl z_13.2.2))] ++ [(q_244009, .inl (cI, x2.toNatClampNeg, .inl z_244010.2))]) H := hP
                          have hD : va_D A (wSg a cI cJ x_14.2.1 x_14.2.2.1 K x_244011.2 I T ++ [(adt, .inl (cI, nt, .inl ft))] ++ [(q_6, .inl (cI, ((if (0 : Int32) < x_1.1 then x_1.1 else 0).toNatClampNeg), .inl z_11.2.2))] ++ [(q_8, .inl (cI, x2.toNatClampNeg, .inl z_12.2))] ++ [(q_10, .inl (cZ, x_4.toNatClampNeg, .inl z_13.2.2))] ++ [(q_244009, .inl (cI, x2.toNatClampNeg, .inl z_244010.2))]) := hD
                          refine W.widen (k := kc_244 + 19) (n := ks_244 + 722) (by omega) (by omega) ?_
                          refine lv_if_ne (tgt := 410) hx hb dL_isShown_405 (by decide) (fun c_244012 => ?_) (fun c_244012 => ?_)
                          · replace hf := (if_neg c_244012).symm.trans hf
                            refine lv_iinc (v := i12_244 + 1) (lv' := [(12, .int (i12_244 + 1)), (14, .int z_244010.1), (13, .ref q_244009), (11, .int (i11_244 ||| (z_11.2.2 i12_244.toNatClampNeg))), (10, .ref q_10), (9, .ref q_8), (8, .ref q_6), (7, .int x_4), (6, .int x_3), (5, .int x_2.1), (4, .int x_1.1), (0, .ref (a 0)), (1, .int x1), (2, .int x2), (3, .ref adt)]) hx hb dL_isShown_410 hl (k := 3) rfl rfl (by decide) rfl (fun ls hl => ?_)
                            refine lv_goto (tgt := 244) hx hb dL_isShown_413 (by decide) ?_
                            replace hP := hP.sub (ws' := (wSg a cI cJ x_14.2.1 x_14.2.2.1 K x_244011.2 I T ++ [(adt, .inl (cI, nt, .inl ft))] ++ [(q_6, .inl (cI, ((if (0 : Int32) < x_1.1 then x_1.1 else 0).toNatClampNeg), .inl z_11.2.2))] ++ [(q_8, .inl (cI, x2.toNatClampNeg, .inl z_12.2))] ++ [(q_10, .inl (cZ, x_4.toNatClampNeg, .inl z_13.2.2))])) [0, 1, 2, 3, 4, 5, 6, 7, 8, 9, 10, 11, 12, 13, 14, 15, 16, 17, 18, 19, 20, 21] rfl
                            replace hD := hD.sub (ws' := (wSg a cI cJ x_14.2.1 x_14.2.2.1 K x_244011.2 I T ++ [(adt, .inl (cI, nt, .inl ft))] ++ [(q_6, .inl (cI, ((if (0 : Int32) < x_1.1 then x_1.1 else 0).toNatClampNeg), .inl z_11.2.2))] ++ [(q_8, .inl (cI, x2.toNatClampNeg, .inl z_12.2))] ++ [(q_10, .inl (cZ, x_4.toNatClampNeg, .inl z_13.2.2))])) [0, 1, 2, 3, 4, 5, 6, 7, 8, 9, 10, 11, 12, 13, 14, 15, 16, 17, 18, 19, 20, 21] (by decide) rfl
                            exact ih (i11_244 ||| (z_11.2.2 i12_244.toNatClampNeg)) (i12_244 + 1) x_244011.2 (kc_244 + 19) (ks_244 + 722) H locs ls _ (lv_sub hl [0, 3, 4, 5, 6, 7, 8, 9, 10, 11, 12, 13, 14] rfl) (by omega) (by omega) hP hD hS hf hret_244 hex_244
                          · replace hf := (if_pos c_244012).symm.trans hf
                            refine lv_iconst (v := 0) hx hb dL_isShown_408 (by decide) ?_
                            replace hf := hret_244 (0, x_14.2.1, x_14.2.2.1, x_244011.2) (Option.some.inj hf).symm
                            subst hf
                            have hP9 := hP.sub (ws' := (wSg a cI cJ x_14.2.1 x_14.2.2.1 K x_244011.2 I T ++ [(adt, .inl (cI, nt, .inl ft))])) [0, 1, 2, 3, 4, 5, 6, 7, 8, 9, 10, 11, 12, 13, 14, 15, 16, 17, 18] rfl
                            have hD9 := hD.sub (ws' := (wSg a cI cJ x_14.2.1 x_14.2.2.1 K x_244011.2 I T ++ [(adt, .inl (cI, nt, .inl ft))])) [0, 1, 2, 3, 4, 5, 6, 7, 8, 9, 10, 11, 12, 13, 14, 15, 16, 17, 18] (by decide) rfl
                            refine W.widen (k := 193) (n := 7412) (by omega) (by omega) ?_
                            exact W.zret (v := 0) (ty := .boolean) hx hb hr rfl (fun t ht hW => ⟨⟨0, (), rfl, rfl, ⟨by rw [ht]; exact hP9, va_K.moved hW.alike hK, hD9⟩⟩, hS.F ht⟩) hS.2.2 dL_isShown_409
                        · replace hf := (if_pos c_244007).symm.trans hf
                          refine lv_goto (tgt := 410) hx hb dL_isShown_342 (by decide) ?_
                          refine lv_iinc (v := i12_244 + 1) (lv' := [(12, .int (i12_244 + 1)), (13, .int y_244006), (11, .int (i11_244 ||| (z_11.2.2 i12_244.toNatClampNeg))), (10, .ref q_10), (9, .ref q_8), (8, .ref q_6), (7, .int x_4), (6, .int x_3), (5, .int x_2.1), (4, .int x_1.1), (0, .ref (a 0)), (1, .int x1), (2, .int x2), (3, .ref adt)]) hx hb dL_isShown_410 hl (k := 2) rfl rfl (by decide) rfl (fun ls hl => ?_)
                          refine lv_goto (tgt := 244) hx hb dL_isShown_413 (by decide) ?_
                          exact ih (i11_244 ||| (z_11.2.2 i12_244.toNatClampNeg)) (i12_244 + 1) N_244 kc_244 ks_244 H locs ls _ (lv_sub hl [0, 2, 3, 4, 5, 6, 7, 8, 9, 10, 11, 12, 13] rfl) (by omega) (by omega) hP hD hS hf hret_244 hex_244
                      · replace hf := (if_neg c_244004).symm.trans hf
                        refine lv_iconst (v := 0) hx hb dL_isShown_270 (by decide) ?_
                        replace hf := hret_244 (0, x_14.2.1, x_14.2.2.1, N_244) (Option.some.inj hf).symm
                        subst hf
                        have hP9 := hP.sub (ws' := (wSg a cI cJ x_14.2.1 x_14.2.2.1 K N_244 I T ++ [(adt, .inl (cI, nt, .inl ft))])) [0, 1, 2, 3, 4, 5, 6, 7, 8, 9, 10, 11, 12, 13, 14, 15, 16, 17, 18] rfl
                        have hD9 := hD.sub (ws' := (wSg a cI cJ x_14.2.1 x_14.2.2.1 K N_244 I T ++ [(adt, .inl (cI, nt, .inl ft))])) [0, 1, 2, 3, 4, 5, 6, 7, 8, 9, 10, 11, 12, 13, 14, 15, 16, 17, 18] (by decide) rfl
                        refine W.widen (k := 193) (n := 7412) (by omega) (by omega) ?_
                        exact W.zret (v := 0) (ty := .boolean) hx hb hr rfl (fun t ht hW => ⟨⟨0, (), rfl, rfl, ⟨by rw [ht]; exact hP9, va_K.moved hW.alike hK, hD9⟩⟩, hS.F ht⟩) hS.2.2 dL_isShown_271
              obtain ⟨z_29, hz_29, hf⟩ := Option.bind_eq_some_iff.mp hf
              refine L_244 10 0 0 x_27.2 3 192 H locs ls z_29 (lv_sub hl [0, 1, 2, 3, 4, 5, 6, 7, 8, 9, 10, 11, 12] rfl) (by omega) (by omega) hP hD hS hz_29 (fun r_ hz => by rw [hz] at hf; exact Option.some.inj hf) (fun y_30 H locs ls hz hl hP hD hS => ?_)
              subst hz
              simp only [Sum.elim_inr] at hf
              refine lv_iconst (v := 1) hx hb dL_isShown_416 (by decide) ?_
              replace hf := Option.some.inj hf
              subst hf
              have hP9 := hP.sub (ws' := (wSg a cI cJ x_14.2.1 x_14.2.2.1 K y_30.2.2 I T ++ [(adt, .inl (cI, nt, .inl ft))])) [0, 1, 2, 3, 4, 5, 6, 7, 8, 9, 10, 11, 12, 13, 14, 15, 16, 17, 18] rfl
              have hD9 := hD.sub (ws' := (wSg a cI cJ x_14.2.1 x_14.2.2.1 K y_30.2.2 I T ++ [(adt, .inl (cI, nt, .inl ft))])) [0, 1, 2, 3, 4, 5, 6, 7, 8, 9, 10, 11, 12, 13, 14, 15, 16, 17, 18] (by decide) rfl
              exact W.zret (v := 1) (ty := .boolean) hx hb hr rfl (fun t ht hW => ⟨⟨1, (), rfl, rfl, ⟨by rw [ht]; exact hP9, va_K.moved hW.alike hK, hD9⟩⟩, hS.F ht⟩) hS.2.2 dL_isShown_417
            · replace hf := (if_neg c_28).symm.trans hf
              refine lv_iconst (v := 0) hx hb dL_isShown_236 (by decide) ?_
              replace hf := Option.some.inj hf
              subst hf
              have hP9 := hP.sub (ws' := (wSg a cI cJ x_14.2.1 x_14.2.2.1 K x_27.2 I T ++ [(adt, .inl (cI, nt, .inl ft))])) [0, 1, 2, 3, 4, 5, 6, 7, 8, 9, 10, 11, 12, 13, 14, 15, 16, 17, 18] rfl
              have hD9 := hD.sub (ws' := (wSg a cI cJ x_14.2.1 x_14.2.2.1 K x_27.2 I T ++ [(adt, .inl (cI, nt, .inl ft))])) [0, 1, 2, 3, 4, 5, 6, 7, 8, 9, 10, 11, 12, 13, 14, 15, 16, 17, 18] (by decide) rfl
              refine W.widen (k := 193) (n := 7412) (by omega) (by omega) ?_
              exact W.zret (v := 0) (ty := .boolean) hx hb hr rfl (fun t ht hW => ⟨⟨0, (), rfl, rfl, ⟨by rw [ht]; exact hP9, va_K.moved hW.alike hK, hD9⟩⟩, hS.F ht⟩) hS.2.2 dL_isShown_237
    · replace hf := (if_neg c_16).symm.trans hf
      refine lv_aload_n hx hb dL_isShown_170 rfl (lv_at hl 8 rfl) ?_
      refine lv_bipush (v := 7) hx hb dL_isShown_171 (by decide) ?_
      obtain ⟨x_31, hx_31, hf⟩ := Option.bind_eq_some_iff.mp hf
      refine q_rV (As := [.int 7]) (rest := []) ⟨hx, hb, hml, hown, hts⟩ (c_X5_sign l dC dI cI cJ a x_14.2.1 x_14.2.2.1 K x_14.2.2.2 I T 7 x_31 hx_31) (cwV 1 hts gM_isShown_X5_sign rfl rfl rfl (by decide +kernel) ⟨Nat.le_of_ble_eq_true rfl, Nat.le_of_ble_eq_true rfl⟩) (hK.sub (tys' := q_ty cI cJ) [0, 1] rfl) hn (hP.sub (ws' := (wSg a cI cJ x_14.2.1 x_14.2.2.1 K x_14.2.2.2 I T)) [0, 1, 2, 3, 4, 5, 6, 7, 8, 9, 10, 11, 12, 13, 14, 15, 16, 17] rfl) (ci := 5) rfl rfl rfl hl.1 rfl (Nat.le_of_ble_eq_true rfl) dL_isShown_173 ⟨by show 3 ≤ 193; omega, by show 192 ≤ 7412; omega⟩ ?_
      refine lv_iload hx hb dL_isShown_176 (lv_at hl 5 rfl) ?_
      refine lv_icmp_ne (tgt := 191) hx hb dL_isShown_178 (by decide) (fun c_32 => ?_) (fun c_32 => ?_)
      · replace hf := (if_neg c_32).symm.trans hf
        refine lv_iconst (v := 0) hx hb dL_isShown_191 (by decide) ?_
        replace hf := Option.some.inj hf
        subst hf
        have hP9 := hP.sub (ws' := (wSg a cI cJ x_14.2.1 x_14.2.2.1 K x_14.2.2.2 I T ++ [(adt, .inl (cI, nt, .inl ft))])) [0, 1, 2, 3, 4, 5, 6, 7, 8, 9, 10, 11, 12, 13, 14, 15, 16, 17, 18] rfl
        have hD9 := hD.sub (ws' := (wSg a cI cJ x_14.2.1 x_14.2.2.1 K x_14.2.2.2 I T ++ [(adt, .inl (cI, nt, .inl ft))])) [0, 1, 2, 3, 4, 5, 6, 7, 8, 9, 10, 11, 12, 13, 14, 15, 16, 17, 18] (by decide) rfl
        refine W.widen (k := 193) (n := 7412) (by omega) (by omega) ?_
        exact W.zret (v := 0) (ty := .boolean) hx hb hr rfl (fun t ht hW => ⟨⟨0, (), rfl, rfl, ⟨by rw [ht]; exact hP9, va_K.moved hW.alike hK, hD9⟩⟩, hS.F ht⟩) hS.2.2 dL_isShown_192
      · replace hf := (if_pos c_32).symm.trans hf
        refine lv_iload hx hb dL_isShown_181 (lv_at hl 6 rfl) ?_
        refine lv_iconst (v := (-1)) hx hb dL_isShown_183 (by decide) ?_
        refine lv_icmp_ne (tgt := 191) hx hb dL_isShown_184 (by decide) (fun c_33 => ?_) (fun c_33 => ?_)
        · replace hf := (if_neg c_33).symm.trans hf
          refine lv_iconst (v := 0) hx hb dL_isShown_191 (by decide) ?_
          replace hf := Option.some.inj hf
          subst hf
          have hP9 := hP.sub (ws' := (wSg a cI cJ x_14.2.1 x_14.2.2.1 K x_14.2.2.2 I T ++ [(adt, .inl (cI, nt, .inl ft))])) [0, 1, 2, 3, 4, 5, 6, 7, 8, 9, 10, 11, 12, 13, 14, 15, 16, 17, 18] rfl
          have hD9 := hD.sub (ws' := (wSg a cI cJ x_14.2.1 x_14.2.2.1 K x_14.2.2.2 I T ++ [(adt, .inl (cI, nt, .inl ft))])) [0, 1, 2, 3, 4, 5, 6, 7, 8, 9, 10, 11, 12, 13, 14, 15, 16, 17, 18] (by decide) rfl
          refine W.widen (k := 193) (n := 7412) (by omega) (by omega) ?_
          exact W.zret (v := 0) (ty := .boolean) hx hb hr rfl (fun t ht hW => ⟨⟨0, (), rfl, rfl, ⟨by rw [ht]; exact hP9, va_K.moved hW.alike hK, hD9⟩⟩, hS.F ht⟩) hS.2.2 dL_isShown_192
        · replace hf := (if_pos c_33).symm.trans hf
          refine lv_iconst (v := 1) hx hb dL_isShown_187 (by decide) ?_
          refine lv_goto (tgt := 192) hx hb dL_isShown_188 (by decide) ?_
          replace hf := Option.some.inj hf
          subst hf
          have hP9 := hP.sub (ws' := (wSg a cI cJ x_14.2.1 x_14.2.2.1 K x_14.2.2.2 I T ++ [(adt, .inl (cI, nt, .inl ft))])) [0, 1, 2, 3, 4, 5, 6, 7, 8, 9, 10, 11, 12, 13, 14, 15, 16, 17, 18] rfl
          have hD9 := hD.sub (ws' := (wSg a cI cJ x_14.2.1 x_14.2.2.1 K x_14.2.2.2 I T ++ [(adt, .inl (cI, nt, .inl ft))])) [0, 1, 2, 3, 4, 5, 6, 7, 8, 9, 10, 11, 12, 13, 14, 15, 16, 17, 18] (by decide) rfl
          refine W.widen (k := 193) (n := 7412) (by omega) (by omega) ?_
          exact W.zret (v := 1) (ty := .boolean) hx hb hr rfl (fun t ht hW => ⟨⟨1, (), rfl, rfl, ⟨by rw [ht]; exact hP9, va_K.moved hW.alike hK, hD9⟩⟩, hS.F ht⟩) hS.2.2 dL_isShown_192
  · replace hf := (if_neg c_15).symm.trans hf
    refine lv_iconst (v := 0) hx hb dL_isShown_163 (by decide) ?_
    replace hf := Option.some.inj hf
    subst hf
    have hP9 := hP.sub (ws' := (wSg a cI cJ x_14.2.1 x_14.2.2.1 K x_14.2.2.2 I T ++ [(adt, .inl (cI, nt, .inl ft))])) [0, 1, 2, 3, 4, 5, 6, 7, 8, 9, 10, 11, 12, 13, 14, 15, 16, 17, 18] rfl
    have hD9 := hD.sub (ws' := (wSg a cI cJ x_14.2.1 x_14.2.2.1 K x_14.2.2.2 I T ++ [(adt, .inl (cI, nt, .inl ft))])) [0, 1, 2, 3, 4, 5, 6, 7, 8, 9, 10, 11, 12, 13, 14, 15, 16, 17, 18] (by decide) rfl
    refine W.widen (k := 193) (n := 7412) (by omega) (by omega) ?_
    exact W.zret (v := 0) (ty := .boolean) hx hb hr rfl (fun t ht hW => ⟨⟨0, (), rfl, rfl, ⟨by rw [ht]; exact hP9, va_K.moved hW.alike hK, hD9⟩⟩, hS.F ht⟩) hS.2.2 dL_isShown_164
