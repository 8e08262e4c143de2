set_option maxHeartbeats 8000000 in
set_option maxRecDepth 100000 in
theorem c_L_isShown (l : Launch) (dC : Nat → ClassId) (dI : Nat → Nat → Nat) (cI cJ cZ : ClassId) (a : Nat → Nat) (adt : Nat) (sz : Nat) (F : q_Fl) (B : q_Bd) (K : q_Bk) (N : q_Pl) (I : q_Wi) (T : q_Rt) (nt : Nat) (ft : q_IA) (x1 : Int32) (x2 : Int32) (r0 : Int32 × q_Fl × q_Bd × q_Pl) (hf : f_L_isShown F B K N I T nt ft x1 x2 = some r0) : Met l yL_isShown wsM_isShown ({ frames := 7, cells := 193, slots := 7412, locals := 161 } : Room) (va_Pc [.ref (a 0), .int x1, .int x2, .ref adt] (q_W (dC, dI) vwCl (wSg a cI cJ F B K N I T ++ [(adt, .inl (cI, nt, .inl ft))]) (q_ty3 cI cJ cZ) sz)) (va_Qi (S := Unit) (fun r_ _ => r_ = r0.1) (fun _ => q_E (dC, dI) vwCl (wSg a cI cJ r0.2.1 r0.2.2.1 K r0.2.2.2 I T ++ [(adt, .inl (cI, nt, .inl ft))]) (q_ty3 cI cJ cZ) (va_A (wSg a cI cJ F B K N I T ++ [(adt, .inl (cI, nt, .inl ft))]) sz)) (va_A (wSg a cI cJ F B K N I T ++ [(adt, .inl (cI, nt, .inl ft))]) sz)) 193 7412 (va_A (wSg a cI cJ F B K N I T ++ [(adt, .inl (cI, nt, .inl ft))]) sz) := by
  refine Met.ofW (cc := cL_isShown) (maxL := 15) (ret := (some .boolean)) (by decide) rfl ?_
  intro p e s m args below meth c s₁ BB hml hv
  obtain ⟨rfl, hsz, hP, hK, hn, hD0⟩ := hv
  have hx := BB.exec
  have hb := BB.bytes
  have hr := BB.returns
  have hts := atoms_spec (ws := wsM_isShown) BB.pre
  have hown : s.vm.findClass RL = some m.cls := findClass_of_methodNamed BB.named
  have hlocks := BB.notSynchronized
  subst hsz
  have hD := hD0.self (sz := s.heap.size)
  generalize hAe : va_A (wSg a cI cJ F B K N I T ++ [(adt, .inl (cI, nt, .inl ft))]) s.heap.size = A at hD ⊢
  have hA : ∀ q : Nat, s.heap.size ≤ q → A q := fun q h => by rw [← hAe]; exact Or.inr h
  have hS : va_S A s.heap s.heap [] := va_S.rf
  have C : q_Sh p s m meth c A (dC, dI) (q_ty3 cI cJ cZ) [.ref (a 0), .int x1, .int x2, .ref adt].toArray := ⟨hx, hb, hr, hts, hown, hlocks, hA, hK, hn, hml⟩
  have hl := lv_entry [.ref (a 0), .int x1, .int x2, .ref adt] (n := 15) (Nat.le_of_ble_eq_true rfl)
  rw [lg_entry_eq]
  generalize (lg_sl [.ref (a 0), .int x1, .int x2, .ref adt] ++ List.replicate (15 - (lg_sl [.ref (a 0), .int x1, .int x2, .ref adt]).length) Slot.unset).toArray = ls at hl ⊢
  have hl : lv_has ls 15 [(0, .ref (a 0)), (1, .int x1), (2, .int x2), (3, .ref adt)] := hl
  suffices hgoal : ∀ (H : Heap) (locs : List Loc), va_P (dC, dI) vwCl (wSg a cI cJ F B K N I T ++ [(adt, .inl (cI, nt, .inl ft))]) H → va_S A s.heap H locs → W p l e (headSpec wsM_isShown ({ frames := 7, cells := 193, slots := 7412, locals := 161 } : Room)).room s m [.ref (a 0), .int x1, .int x2, .ref adt].toArray below meth c H locs 0 0 (MQ below (va_Qi (S := Unit) (fun r_ _ => r_ = r0.1) (fun _ => q_E (dC, dI) vwCl (wSg a cI cJ r0.2.1 r0.2.2.1 K r0.2.2.2 I T ++ [(adt, .inl (cI, nt, .inl ft))]) (q_ty3 cI cJ cZ) A) A) [.ref (a 0), .int x1, .int x2, .ref adt].toArray s 193 7412 A) (F0 m 0 ls []) by
    refine W.widen (k := 0) (n := 0) (by omega) (by omega) ?_
    exact hgoal s.heap [] hP hS
  clear hP hS
  intro H locs hP hS
  unfold f_L_isShown at hf
  refine lv_aload_n hx hb dL_isShown_0 rfl (lv_at hl 0 rfl) ?_
  refine lv_iload_n hx hb dL_isShown_1 rfl (lv_at hl 1 rfl) ?_
  refine lv_bipush (v := 6) hx hb dL_isShown_2 (by decide) ?_
  obtain ⟨x_1, hx_1, hf⟩ := Option.bind_eq_some_iff.mp hf
  have hPc := hP.sub (ws' := (wSg a cI cJ F B K N I T)) [0, 1, 2, 3, 4, 5, 6, 7, 8, 9, 10, 11, 12, 13, 14, 15, 16, 17] rfl
  have hDc := hD.sub (ws' := (wSg a cI cJ F B K N I T)) [0, 1, 2, 3, 4, 5, 6, 7, 8, 9, 10, 11, 12, 13, 14, 15, 16, 17] (by decide) rfl
  have hFc := va_free (wc := (wSg a cI cJ F B K N I T)) hD hS hA [0, 1, 2, 3, 4, 5, 6, 7, 8, 9, 10, 11, 12, 13, 14, 15, 16, 17] rfl
  refine va_calli (va_runV (As := [.int x1, .int 6]) (rest := []) ⟨hx, hb, hml, hown, hts⟩ (c_X5_ofLine l dC dI cI cJ a H.size F B K N I T x1 6 x_1 hx_1) (cwV 2 hts gM_isShown_X5_ofLine rfl rfl rfl (by decide +kernel) ⟨Nat.le_of_ble_eq_true rfl, Nat.le_of_ble_eq_true rfl⟩) ⟨q_Wblind, va_recv (hK.sub (tys' := q_ty cI cJ) [0, 1] rfl) hPc (ci := 5) (q0 := 0) rfl rfl, q_Wpre hPc (hK.sub (tys' := q_ty cI cJ) [0, 1] rfl) hn hDc⟩ rfl rfl hl.1 rfl (lv_room (Nat.le_of_ble_eq_true rfl)) dL_isShown_4 ⟨by show 0 + 0 ≤ 193; omega, by show 0 + 0 ≤ 7412; omega⟩) hS (fun q _ h => hFc q h) hFc (fun r_9 u t H1 locs ht hvm hw hB hz1 hk1 hS => ?_)
  subst hw
  obtain ⟨hP1, hK1, hD1⟩ := hB
  rw [ht] at hP1
  obtain ⟨hP, hD⟩ := va_join (wr := ([(adt, .inl (cI, nt, .inl ft))])) (w1 := (wSg a cI cJ F B K x_1.2 I T)) hP hD [0, 1, 2, 3, 4, 5, 6, 7, 8, 9, 10, 11, 12, 13, 14, 15, 16, 17] [18] rfl rfl (by decide) (by decide) hk1 hFc hP1 hD1
  generalize H1 = H at hP hS ⊢
  replace hP := hP.sub (ws' := (wSg a cI cJ F B K x_1.2 I T ++ [(adt, .inl (cI, nt, .inl ft))])) [1, 2, 3, 4, 5, 6, 7, 8, 9, 10, 11, 12, 13, 14, 15, 16, 17, 18, 0] rfl
  replace hD := hD.sub (ws' := (wSg a cI cJ F B K x_1.2 I T ++ [(adt, .inl (cI, nt, .inl ft))])) [1, 2, 3, 4, 5, 6, 7, 8, 9, 10, 11, 12, 13, 14, 15, 16, 17, 18, 0] (by decide) rfl
  have hP : va_P (dC, dI) vwCl (wSg a cI cJ F B K x_1.2 I T ++ [(adt, .inl (cI, nt, .inl ft))]) H := hP
  have hD : va_D A (wSg a cI cJ F B K x_1.2 I T ++ [(adt, .inl (cI, nt, .inl ft))]) := hD
  refine lv_istore (lv' := [(4, .int x_1.1), (0, .ref (a 0)), (1, .int x1), (2, .int x2), (3, .ref adt)]) hx hb dL_isShown_7 hl (by decide) rfl (fun ls hl => ?_)
  refine lv_aload_n hx hb dL_isShown_9 rfl (lv_at hl 1 rfl) ?_
  refine lv_iload_n hx hb dL_isShown_10 rfl (lv_at hl 2 rfl) ?_
  refine lv_bipush (v := 7) hx hb dL_isShown_11 (by decide) ?_
  obtain ⟨x_2, hx_2, hf⟩ := Option.bind_eq_some_iff.mp hf
  have hPc := hP.sub (ws' := (wSg a cI cJ F B K x_1.2 I T)) [0, 1, 2, 3, 4, 5, 6, 7, 8, 9, 10, 11, 12, 13, 14, 15, 16, 17] rfl
  have hDc := hD.sub (ws' := (wSg a cI cJ F B K x_1.2 I T)) [0, 1, 2, 3, 4, 5, 6, 7, 8, 9, 10, 11, 12, 13, 14, 15, 16, 17] (by decide) rfl
  have hFc := va_free (wc := (wSg a cI cJ F B K x_1.2 I T)) hD hS hA [0, 1, 2, 3, 4, 5, 6, 7, 8, 9, 10, 11, 12, 13, 14, 15, 16, 17] rfl
  refine va_calli (va_runV (As := [.int x1, .int 7]) (rest := []) ⟨hx, hb, hml, hown, hts⟩ (c_X5_ofLine l dC dI cI cJ a H.size F B K x_1.2 I T x1 7 x_2 hx_2) (cwV 2 hts gM_isShown_X5_ofLine rfl rfl rfl (by decide +kernel) ⟨Nat.le_of_ble_eq_true rfl, Nat.le_of_ble_eq_true rfl⟩) ⟨q_Wblind, va_recv (hK.sub (tys' := q_ty cI cJ) [0, 1] rfl) hPc (ci := 5) (q0 := 0) rfl rfl, q_Wpre hPc (hK.sub (tys' := q_ty cI cJ) [0, 1] rfl) hn hDc⟩ rfl rfl hl.1 rfl (lv_room (Nat.le_of_ble_eq_true rfl)) dL_isShown_13 ⟨by show 0 + 0 ≤ 193; omega, by show 0 + 0 ≤ 7412; omega⟩) hS (fun q _ h => hFc q h) hFc (fun r_9 u t H1 locs ht hvm hw hB hz1 hk1 hS => ?_)
  subst hw
  obtain ⟨hP1, hK1, hD1⟩ := hB
  rw [ht] at hP1
  obtain ⟨hP, hD⟩ := va_join (wr := ([(adt, .inl (cI, nt, .inl ft))])) (w1 := (wSg a cI cJ F B K x_2.2 I T)) hP hD [0, 1, 2, 3, 4, 5, 6, 7, 8, 9, 10, 11, 12, 13, 14, 15, 16, 17] [18] rfl rfl (by decide) (by decide) hk1 hFc hP1 hD1
  generalize H1 = H at hP hS ⊢
  replace hP := hP.sub (ws' := (wSg a cI cJ F B K x_2.2 I T ++ [(adt, .inl (cI, nt, .inl ft))])) [1, 2, 3, 4, 5, 6, 7, 8, 9, 10, 11, 12, 13, 14, 15, 16, 17, 18, 0] rfl
  replace hD := hD.sub (ws' := (wSg a cI cJ F B K x_2.2 I T ++ [(adt, .inl (cI, nt, .inl ft))])) [1, 2, 3, 4, 5, 6, 7, 8, 9, 10, 11, 12, 13, 14, 15, 16, 17, 18, 0] (by decide) rfl
  have hP : va_P (dC, dI) vwCl (wSg a cI cJ F B K x_2.2 I T ++ [(adt, .inl (cI, nt, .inl ft))]) H := hP
  have hD : va_D A (wSg a cI cJ F B K x_2.2 I T ++ [(adt, .inl (cI, nt, .inl ft))]) := hD
  refine lv_istore (lv' := [(5, .int x_2.1), (4, .int x_1.1), (0, .ref (a 0)), (1, .int x1), (2, .int x2), (3, .ref adt)]) hx hb dL_isShown_16 hl (by decide) rfl (fun ls hl => ?_)
  refine lv_aload_n hx hb dL_isShown_18 rfl (lv_at hl 2 rfl) ?_
  refine lv_bipush (v := 7) hx hb dL_isShown_19 (by decide) ?_
  obtain ⟨x_3, hx_3, hf⟩ := Option.bind_eq_some_iff.mp hf
  refine q_rV (As := [.int 7]) (rest := []) ⟨hx, hb, hml, hown, hts⟩ (c_X5_sign l dC dI cI cJ a F B K x_2.2 I T 7 x_3 hx_3) (cwV 1 hts gM_isShown_X5_sign rfl rfl rfl (by decide +kernel) ⟨Nat.le_of_ble_eq_true rfl, Nat.le_of_ble_eq_true rfl⟩) (hK.sub (tys' := q_ty cI cJ) [0, 1] rfl) hn (hP.sub (ws' := (wSg a cI cJ F B K x_2.2 I T)) [0, 1, 2, 3, 4, 5, 6, 7, 8, 9, 10, 11, 12, 13, 14, 15, 16, 17] rfl) (ci := 5) rfl rfl rfl hl.1 rfl (Nat.le_of_ble_eq_true rfl) dL_isShown_21 ⟨by show 0 ≤ 193; omega, by show 0 ≤ 7412; omega⟩ ?_
  refine lv_istore (lv' := [(6, .int x_3), (5, .int x_2.1), (4, .int x_1.1), (0, .ref (a 0)), (1, .int x1), (2, .int x2), (3, .ref adt)]) hx hb dL_isShown_24 hl (by decide) rfl (fun ls hl => ?_)
  refine lv_aload_n hx hb dL_isShown_26 rfl (lv_at hl 3 rfl) ?_
  refine lv_iconst (v := 4) hx hb dL_isShown_27 (by decide) ?_
  obtain ⟨x_4, hx_4, hf⟩ := Option.bind_eq_some_iff.mp hf
  refine q_rV (As := [.int 4]) (rest := []) ⟨hx, hb, hml, hown, hts⟩ (c_X5_sign l dC dI cI cJ a F B K x_2.2 I T 4 x_4 hx_4) (cwV 1 hts gM_isShown_X5_sign rfl rfl rfl (by decide +kernel) ⟨Nat.le_of_ble_eq_true rfl, Nat.le_of_ble_eq_true rfl⟩) (hK.sub (tys' := q_ty cI cJ) [0, 1] rfl) hn (hP.sub (ws' := (wSg a cI cJ F B K x_2.2 I T)) [0, 1, 2, 3, 4, 5, 6, 7, 8, 9, 10, 11, 12, 13, 14, 15, 16, 17] rfl) (ci := 5) rfl rfl rfl hl.1 rfl (Nat.le_of_ble_eq_true rfl) dL_isShown_28 ⟨by show 0 ≤ 193; omega, by show 0 ≤ 7412; omega⟩ ?_
  refine lv_istore (lv' := [(7, .int x_4), (6, .int x_3), (5, .int x_2.1), (4, .int x_1.1), (0, .ref (a 0)), (1, .int x1), (2, .int x2), (3, .ref adt)]) hx hb dL_isShown_31 hl (by decide) rfl (fun ls hl => ?_)
  refine lv_iconst (v := 0) hx hb dL_isShown_33 (by decide) ?_
  refine lv_iload hx hb dL_isShown_34 (lv_at hl 3 rfl) ?_
  refine va_mmax hx hb (hml.trans hl.1.symm) hown (hts (.methodLink RL 70 Lib.Math.max.name) (by decide +kernel)) (hts (.static Lib.Math.max.name) (by decide +kernel)) (hts (.initialized "java/lang/Math") (by decide +kernel)) (hts (.code Lib.Math.max.name Lib.Math.max.code 2 (some .int)) (by decide +kernel)) (by decide) (by decide) (by show 0 ≤ 193; omega) (by show 0 ≤ 7412; omega) dL_isShown_36 ?_
  by_cases nc_5 : ¬ q_ix (if (0 : Int32) < x_1.1 then x_1.1 else 0) 65 = true
  · replace hf := (if_neg nc_5).symm.trans hf
    cases hf
  have c_5 := Classical.not_not.mp nc_5
  replace hf := (if_pos c_5).symm.trans hf
  have kc_5 := q_ixlt c_5
  refine va_newa (atype := .int) (ty := .int) (a0 := ((if (0 : Int32) < x_1.1 then x_1.1 else 0).toNatClampNeg, .inl (fun _ => 0))) (N' := (if (0 : Int32) < x_1.1 then x_1.1 else 0).toNatClampNeg) hx hb (hts (.arrayClass .int) (by decide +kernel)) rfl hK hP hD hS hA (fun _ => rfl) kc_5.1 rfl (by show (if (0 : Int32) < x_1.1 then x_1.1 else 0).toNatClampNeg * 4 ≤ 536870912; omega) (by show 0 + 1 ≤ 193; omega) (by show 0 + (if (0 : Int32) < x_1.1 then x_1.1 else 0).toNatClampNeg ≤ 7412; omega) dL_isShown_39 (fun q_6 cN H hK2 hP hD hS => ?_)
  obtain rfl := q_sameI3 hK2
  refine W.widen (k := 1) (n := 64) (by omega) (by omega) ?_
  have hP : va_P (dC, dI) vwCl (wSg a cI cJ F B K x_2.2 I T ++ [(adt, .inl (cI, nt, .inl ft))] ++ [(q_6, .inl (cI, ((if (0 : Int32) < x_1.1 then x_1.1 else 0).toNatClampNeg), .inl (fun _ => 0)))]) H := hP
  have hD : va_D A (wSg a cI cJ F B K x_2.2 I T ++ [(adt, .inl (cI, nt, .inl ft))] ++ [(q_6, .inl (cI, ((if (0 : Int32) < x_1.1 then x_1.1 else 0).toNatClampNeg), .inl (fun _ => 0)))]) := hD
  refine lv_astore (lv' := [(8, .ref q_6), (7, .int x_4), (6, .int x_3), (5, .int x_2.1), (4, .int x_1.1), (0, .ref (a 0)), (1, .int x1), (2, .int x2), (3, .ref adt)]) hx hb dL_isShown_41 hl (by decide) rfl (fun ls hl => ?_)
  refine lv_iload_n hx hb dL_isShown_43 rfl (lv_at hl 7 rfl) ?_
  by_cases nc_7 : ¬ q_ix x2 65 = true
  · replace hf := (if_neg nc_7).symm.trans hf
    cases hf
  have c_7 := Classical.not_not.mp nc_7
  replace hf := (if_pos c_7).symm.trans hf
  have kc_7 := q_ixlt c_7
  refine va_newa (atype := .int) (ty := .int) (a0 := (x2.toNatClampNeg, .inl (fun _ => 0))) (N' := x2.toNatClampNeg) hx hb (hts (.arrayClass .int) (by decide +kernel)) rfl hK hP hD hS hA (fun _ => rfl) kc_7.1 rfl (by show x2.toNatClampNeg * 4 ≤ 536870912; omega) (by show 1 + 1 ≤ 193; omega) (by show 64 + x2.toNatClampNeg ≤ 7412; omega) dL_isShown_44 (fun q_8 cN H hK2 hP hD hS => ?_)
  obtain rfl := q_sameI3 hK2
  refine W.widen (k := 2) (n := 128) (by omega) (by omega) ?_
  have hP : va_P (dC, dI) vwCl (wSg a cI cJ F B K x_2.2 I T ++ [(adt, .inl (cI, nt, .inl ft))] ++ [(q_6, .inl (cI, ((if (0 : Int32) < x_1.1 then x_1.1 else 0).toNatClampNeg), .inl (fun _ => 0)))] ++ [(q_8, .inl (cI, x2.toNatClampNeg, .inl (fun _ => 0)))]) H := hP
  have hD : va_D A (wSg a cI cJ F B K x_2.2 I T ++ [(adt, .inl (cI, nt, .inl ft))] ++ [(q_6, .inl (cI, ((if (0 : Int32) < x_1.1 then x_1.1 else 0).toNatClampNeg), .inl (fun _ => 0)))] ++ [(q_8, .inl (cI, x2.toNatClampNeg, .inl (fun _ => 0)))]) := hD
  refine lv_astore (lv' := [(9, .ref q_8), (8, .ref q_6), (7, .int x_4), (6, .int x_3), (5, .int x_2.1), (4, .int x_1.1), (0, .ref (a 0)), (1, .int x1), (2, .int x2), (3, .ref adt)]) hx hb dL_isShown_46 hl (by decide) rfl (fun ls hl => ?_)
  refine lv_iload hx hb dL_isShown_48 (lv_at hl 2 rfl) ?_
  by_cases nc_9 : ¬ q_ix x_4 65 = true
  · replace hf := (if_neg nc_9).symm.trans hf
    cases hf
  have c_9 := Classical.not_not.mp nc_9
  replace hf := (if_pos c_9).symm.trans hf
  have kc_9 := q_ixlt c_9
  refine va_newa (atype := .boolean) (ty := .boolean) (a0 := (x_4.toNatClampNeg, .inl (fun _ => 0))) (N' := x_4.toNatClampNeg) hx hb (hts (.arrayClass .boolean) (by decide +kernel)) rfl hK hP hD hS hA (fun _ => rfl) kc_9.1 rfl (by show x_4.toNatClampNeg * 1 ≤ 536870912; omega) (by show 2 + 1 ≤ 193; omega) (by show 128 + x_4.toNatClampNeg ≤ 7412; omega) dL_isShown_50 (fun q_10 cN H hK2 hP hD hS => ?_)
  obtain rfl := q_sameZ3 hK2
  refine W.widen (k := 3) (n := 192) (by omega) (by omega) ?_
  have hP : va_P (dC, dI) vwCl (wSg a cI cJ F B K x_2.2 I T ++ [(adt, .inl (cI, nt, .inl ft))] ++ [(q_6, .inl (cI, ((if (0 : Int32) < x_1.1 then x_1.1 else 0).toNatClampNeg), .inl (fun _ => 0)))] ++ [(q_8, .inl (cI, x2.toNatClampNeg, .inl (fun _ => 0)))] ++ [(q_10, .inl (cZ, x_4.toNatClampNeg, .inl (fun _ => 0)))]) H := hP
  have hD : va_D A (wSg a cI cJ F B K x_2.2 I T ++ [(adt, .inl (cI, nt, .inl ft))] ++ [(q_6, .inl (cI, ((if (0 : Int32) < x_1.1 then x_1.1 else 0).toNatClampNeg), .inl (fun _ => 0)))] ++ [(q_8, .inl (cI, x2.toNatClampNeg, .inl (fun _ => 0)))] ++ [(q_10, .inl (cZ, x_4.toNatClampNeg, .inl (fun _ => 0)))]) := hD
  refine lv_astore (lv' := [(10, .ref q_10), (9, .ref q_8), (8, .ref q_6), (7, .int x_4), (6, .int x_3), (5, .int x_2.1), (4, .int x_1.1), (0, .ref (a 0)), (1, .int x1), (2, .int x2), (3, .ref adt)]) hx hb dL_isShown_52 hl (by decide) rfl (fun ls hl => ?_)
  refine lv_iconst (v := 0) hx hb dL_isShown_54 (by decide) ?_
  refine lv_istore (lv' := [(11, .int 0), (10, .ref q_10), (9, .ref q_8), (8, .ref q_6), (7, .int x_4), (6, .int x_3), (5, .int x_2.1), (4, .int x_1.1), (0, .ref (a 0)), (1, .int x1), (2, .int x2), (3, .ref adt)]) hx hb dL_isShown_55 hl (by decide) rfl (fun ls hl => ?_)
  have L_57 := lt_isShown_57 (p := p) (e := e) (s := s) (m := m) (below := below) (meth := meth) (c := c) (A := A) l dC dI cI cJ cZ a adt r0 x1 x2 F B K I T nt ft x_1 x_2 x_3 x_4 q_6 q_8 q_10 C  
  obtain ⟨z_11, hz_11, hf⟩ := Option.bind_eq_some_iff.mp hf
  refine L_57 1000 0 x_2.2 (fun _ => 0) H locs ls z_11 (lv_sub hl [0, 1, 2, 3, 4, 5, 6, 7, 8, 9, 10, 11] rfl) hP hD hS hz_11 (fun H locs ls hl hP hD hS => ?_)
  refine lv_iconst (v := 0) hx hb dL_isShown_83 (by decide) ?_
  refine lv_istore (lv' := [(11, .int 0), (10, .ref q_10), (9, .ref q_8), (8, .ref q_6), (7, .int x_4), (6, .int x_3), (5, .int x_2.1), (4, .int x_1.1), (0, .ref (a 0)), (1, .int x1), (2, .int x2), (3, .ref adt)]) hx hb dL_isShown_84 hl (by decide) rfl (fun ls hl => ?_)
  have L_86 := lt_isShown_86 (p := p) (e := e) (s := s) (m := m) (below := below) (meth := meth) (c := c) (A := A) l dC dI cI cJ cZ a adt r0 x1 x2 F B K I T nt ft x_1 x_2 x_3 x_4 z_11 q_6 q_8 q_10 C  
  obtain ⟨z_12, hz_12, hf⟩ := Option.bind_eq_some_iff.mp hf
  refine L_86 1000 0 (fun _ => 0) H locs ls z_12 (lv_sub hl [0, 1, 2, 3, 4, 5, 6, 7, 8, 9, 10, 11] rfl) hP hD hS hz_12 (fun H locs ls hl hP hD hS => ?_)
  refine lv_iconst (v := 0) hx hb dL_isShown_110 (by decide) ?_
  refine lv_istore (lv' := [(11, .int 0), (10, .ref q_10), (9, .ref q_8), (8, .ref q_6), (7, .int x_4), (6, .int x_3), (5, .int x_2.1), (4, .int x_1.1), (0, .ref (a 0)), (1, .int x1), (2, .int x2), (3, .ref adt)]) hx hb dL_isShown_111 hl (by decide) rfl (fun ls hl => ?_)
  have L_113 := lt_isShown_113 (p := p) (e := e) (s := s) (m := m) (below := below) (meth := meth) (c := c) (A := A) l dC dI cI cJ cZ a adt r0 x1 x2 F B K I T nt ft x_1 x_2 x_3 x_4 z_11 z_12 q_6 q_8 q_10 C  
  obtain ⟨z_13, hz_13, hf⟩ := Option.bind_eq_some_iff.mp hf
  refine L_113 1000 0 z_11.2.1 (fun _ => 0) H locs ls z_13 (lv_sub hl [0, 1, 2, 3, 4, 5, 6, 7, 8, 9, 10, 11] rfl) hP hD hS hz_13 (fun H locs ls hl hP hD hS => ?_)
  refine lv_aload_n hx hb dL_isShown_153 rfl (lv_at hl 8 rfl) ?_
  refine lv_iload_n hx hb dL_isShown_154 rfl (lv_at hl 9 rfl) ?_
  obtain ⟨x_14, hx_14, hf⟩ := Option.bind_eq_some_iff.mp hf
  have hPc := hP.sub (ws' := (wSg a cI cJ F B K z_13.2.1 I T)) [0, 1, 2, 3, 4, 5, 6, 7, 8, 9, 10, 11, 12, 13, 14, 15, 16, 17] rfl
  have hDc := hD.sub (ws' := (wSg a cI cJ F B K z_13.2.1 I T)) [0, 1, 2, 3, 4, 5, 6, 7, 8, 9, 10, 11, 12, 13, 14, 15, 16, 17] (by decide) rfl
  have hFc := va_free (wc := (wSg a cI cJ F B K z_13.2.1 I T)) hD hS hA [0, 1, 2, 3, 4, 5, 6, 7, 8, 9, 10, 11, 12, 13, 14, 15, 16, 17] rfl
  refine va_calli (va_runV (As := [.int x1]) (rest := []) ⟨hx, hb, hml, hown, hts⟩ (c_X5_show l dC dI cI cJ a H.size F B K z_13.2.1 I T x1 x_14 hx_14) (cwV 1 hts gM_isShown_X5_show rfl rfl rfl (by decide +kernel) ⟨Nat.le_of_ble_eq_true rfl, Nat.le_of_ble_eq_true rfl⟩) ⟨q_Wblind, va_recv (hK.sub (tys' := q_ty cI cJ) [0, 1] rfl) hPc (ci := 5) (q0 := 0) rfl rfl, q_Wpre hPc (hK.sub (tys' := q_ty cI cJ) [0, 1] rfl) hn hDc⟩ rfl rfl hl.1 rfl (lv_room (Nat.le_of_ble_eq_true rfl)) dL_isShown_155 ⟨by show 3 + 0 ≤ 193; omega, by show 192 + 0 ≤ 7412; omega⟩) hS (fun q _ h => hFc q h) hFc (fun r_9 u t H1 locs ht hvm hw hB hz1 hk1 hS => ?_)
  subst hw
  obtain ⟨hP1, hK1, hD1⟩ := hB
  rw [ht] at hP1
  obtain ⟨hP, hD⟩ := va_join (wr := ([(adt, .inl (cI, nt, .inl ft))] ++ [(q_6, .inl (cI, ((if (0 : Int32) < x_1.1 then x_1.1 else 0).toNatClampNeg), .inl z_11.2.2))] ++ [(q_8, .inl (cI, x2.toNatClampNeg, .inl z_12.2))] ++ [(q_10, .inl (cZ, x_4.toNatClampNeg, .inl z_13.2.2))])) (w1 := (wSg a cI cJ x_14.2.1 x_14.2.2.1 K x_14.2.2.2 I T)) hP hD [0, 1, 2, 3, 4, 5, 6, 7, 8, 9, 10, 11, 12, 13, 14, 15, 16, 17] [18, 19, 20, 21] rfl rfl (by decide) (by decide) hk1 hFc hP1 hD1
  generalize H1 = H at hP hS ⊢
  replace hP := hP.sub (ws' := (wSg a cI cJ x_14.2.1 x_14.2.2.1 K x_14.2.2.2 I T ++ [(adt, .inl (cI, nt, .inl ft))] ++ [(q_6, .inl (cI, ((if (0 : Int32) < x_1.1 then x_1.1 else 0).toNatClampNeg), .inl z_11.2.2))] ++ [(q_8, .inl (cI, x2.toNatClampNeg, .inl z_12.2))] ++ [(q_10, .inl (cZ, x_4.toNatClampNeg, .inl z_13.2.2))])) [4, 5, 6, 7, 8, 9, 10, 11, 12, 13, 14, 15, 16, 17, 18, 19, 20, 21, 0, 1, 2, 3] rfl
  replace hD := hD.sub (ws' := (wSg a cI cJ x_14.2.1 x_14.2.2.1 K x_14.2.2.2 I T ++ [(adt, .inl (cI, nt, .inl ft))] ++ [(q_6, .inl (cI, ((if (0 : Int32) < x_1.1 then x_1.1 else 0).toNatClampNeg), .inl z_11.2.2))] ++ [(q_8, .inl (cI, x2.toNatClampNeg, .inl z_12.2))] ++ [(q_10, .inl (cZ, x_4.toNatClampNeg, .inl z_13.2.2))])) [4, 5, 6, 7, 8, 9, 10, 11, 12, 13, 14, 15, 16, 17, 18, 19, 20, 21, 0, 1, 2, 3] (by decide) rfl
  have hP : va_P (dC, dI) vwCl (wSg a cI cJ x_14.2.1 x_14.2.2.1 K x_14.2.2.2 I T ++ [(adt, .inl (cI, nt, .inl ft))] ++ [(q_6, .inl (cI, ((if (0 : Int32) < x_1.1 then x_1.1 else 0).toNatClampNeg), .inl z_11.2.2))] ++ [(q_8, .inl (cI, x2.toNatClampNeg, .inl z_12.2))] ++ [(q_10, .inl (cZ, x_4.toNatClampNeg, .inl z_13.2.2))]) H := hP
  have hD : va_D A (wSg a cI cJ x_14.2.1 x_14.2.2.1 K x_14.2.2.2 I T ++ [(adt, .inl (cI, nt, .inl ft))] ++ [(q_6, .inl (cI, ((if (0 : Int32) < x_1.1 then x_1.1 else 0).toNatClampNeg), .inl z_11.2.2))] ++ [(q_8, .inl (cI, x2.toNatClampNeg, .inl z_12.2))] ++ [(q_10, .inl (cZ, x_4.toNatClampNeg, .inl z_13.2.2))]) := hD
  refine lv_iload hx hb dL_isShown_158 (lv_at hl 7 rfl) ?_
  refine lv_icmp_eq (tgt := 165) hx hb dL_isShown_160 (by decide) (fun c_15 => ?_) (fun c_15 => ?_)
  · replace hf := (if_pos c_15).symm.trans hf
    refine lv_iload hx hb dL_isShown_165 (lv_at hl 7 rfl) ?_
    refine lv_if_ge (tgt := 193) hx hb dL_isShown_167 (by decide) (fun c_16 => ?_) (fun c_16 => ?_)
    · replace hf := (if_pos c_16).symm.trans hf
      refine lv_aload_n hx hb dL_isShown_193 rfl (lv_at hl 8 rfl) ?_
      refine lv_bipush (v := 7) hx hb dL_isShown_194 (by decide) ?_
      obtain ⟨x_17, hx_17, hf⟩ := Option.bind_eq_some_iff.mp hf
      refine q_rV (As := [.int 7]) (rest := []) ⟨hx, hb, hml, hown, hts⟩ (c_X5_sign l dC dI cI cJ a x_14.2.1 x_14.2.2.1 K x_14.2.2.2 I T 7 x_17 hx_17) (cwV 1 hts gM_isShown_X5_sign rfl rfl rfl (by decide +kernel) ⟨Nat.le_of_ble_eq_true rfl, Nat.le_of_ble_eq_true rfl⟩) (hK.sub (tys' := q_ty cI cJ) [0, 1] rfl) hn (hP.sub (ws' := (wSg a cI cJ x_14.2.1 x_14.2.2.1 K x_14.2.2.2 I T)) [0, 1, 2, 3, 4, 5, 6, 7, 8, 9, 10, 11, 12, 13, 14, 15, 16, 17] rfl) (ci := 5) rfl rfl rfl hl.1 rfl (Nat.le_of_ble_eq_true rfl) dL_isShown_196 ⟨by show 3 ≤ 193; omega, by show 192 ≤ 7412; omega⟩ ?_
      refine lv_iload hx hb dL_isShown_199 (lv_at hl 5 rfl) ?_
      refine lv_iload hx hb dL_isShown_201 (lv_at hl 6 rfl) ?_
      refine lv_iadd hx hb dL_isShown_203 ?_
      refine lv_icmp_ne (tgt := 236) hx hb dL_isShown_204 (by decide) (fun c_18 => ?_) (fun c_18 => ?_)
      · replace hf := (if_neg c_18).symm.trans hf
        refine lv_iconst (v := 0) hx hb dL_isShown_236 (by decide) ?_
        replace hf := Option.some.inj hf
        subst hf
        have hP9 := hP.sub (ws' := (wSg a cI cJ x_14.2.1 x_14.2.2.1 K x_14.2.2.2 I T ++ [(adt, .inl (cI, nt, .inl ft))])) [0, 1, 2, 3, 4, 5, 6, 7, 8, 9, 10, 11, 12, 13, 14, 15, 16, 17, 18] rfl
        have hD9 := hD.sub (ws' := (wSg a cI cJ x_14.2.1 x_14.2.2.1 K x_14.2.2.2 I T ++ [(adt, .inl (cI, nt, .inl ft))])) [0, 1, 2, 3, 4, 5, 6, 7, 8, 9, 10, 11, 12, 13, 14, 15, 16, 17, 18] (by decide) rfl
        refine W.widen (k := 193) (n := 7412) (by omega) (by omega) ?_
        exact W.zret (v := 0) (ty := .boolean) hx hb hr rfl (fun t ht hW => ⟨⟨0, (), rfl, rfl, ⟨by rw [ht]; exact hP9, va_K.moved hW.alike hK, hD9⟩⟩, hS.F ht⟩) hS.2.2 dL_isShown_237
      · replace hf := (if_pos c_18).symm.trans hf
        refine lv_aload_n hx hb dL_isShown_207 rfl (lv_at hl 8 rfl) ?_
        refine lv_iload_n hx hb dL_isShown_208 rfl (lv_at hl 9 rfl) ?_
        refine lv_iconst (v := 3) hx hb dL_isShown_209 (by decide) ?_
        obtain ⟨x_19, hx_19, hf⟩ := Option.bind_eq_some_iff.mp hf
        have hPc := hP.sub (ws' := (wSg a cI cJ x_14.2.1 x_14.2.2.1 K x_14.2.2.2 I T)) [0, 1, 2, 3, 4, 5, 6, 7, 8, 9, 10, 11, 12, 13, 14, 15, 16, 17] rfl
        have hDc := hD.sub (ws' := (wSg a cI cJ x_14.2.1 x_14.2.2.1 K x_14.2.2.2 I T)) [0, 1, 2, 3, 4, 5, 6, 7, 8, 9, 10, 11, 12, 13, 14, 15, 16, 17] (by decide) rfl
        have hFc := va_free (wc := (wSg a cI cJ x_14.2.1 x_14.2.2.1 K x_14.2.2.2 I T)) hD hS hA [0, 1, 2, 3, 4, 5, 6, 7, 8, 9, 10, 11, 12, 13, 14, 15, 16, 17] rfl
        refine va_calli (va_runV (As := [.int x1, .int 3]) (rest := []) ⟨hx, hb, hml, hown, hts⟩ (c_X5_ofLine l dC dI cI cJ a H.size x_14.2.1 x_14.2.2.1 K x_14.2.2.2 I T x1 3 x_19 hx_19) (cwV 2 hts gM_isShown_X5_ofLine rfl rfl rfl (by decide +kernel) ⟨Nat.le_of_ble_eq_true rfl, Nat.le_of_ble_eq_true rfl⟩) ⟨q_Wblind, va_recv (hK.sub (tys' := q_ty cI cJ) [0, 1] rfl) hPc (ci := 5) (q0 := 0) rfl rfl, q_Wpre hPc (hK.sub (tys' := q_ty cI cJ) [0, 1] rfl) hn hDc⟩ rfl rfl hl.1 rfl (lv_room (Nat.le_of_ble_eq_true rfl)) dL_isShown_210 ⟨by show 3 + 0 ≤ 193; omega, by show 192 + 0 ≤ 7412; omega⟩) hS (fun q _ h => hFc q h) hFc (fun r_9 u t H1 locs ht hvm hw hB hz1 hk1 hS => ?_)
        subst hw
        obtain ⟨hP1, hK1, hD1⟩ := hB
        rw [ht] at hP1
        obtain ⟨hP, hD⟩ := va_join (wr := ([(adt, .inl (cI, nt, .inl ft))] ++ [(q_6, .inl (cI, ((if (0 : Int32) < x_1.1 then x_1.1 else 0).toNatClampNeg), .inl z_11.2.2))] ++ [(q_8, .inl (cI, x2.toNatClampNeg, .inl z_12.2))] ++ [(q_10, .inl (cZ, x_4.toNatClampNeg, .inl z_13.2.2))])) (w1 := (wSg a cI cJ x_14.2.1 x_14.2.2.1 K x_19.2 I T)) hP hD [0, 1, 2, 3, 4, 5, 6, 7, 8, 9, 10, 11, 12, 13, 14, 15, 16, 17] [18, 19, 20, 21] rfl rfl (by decide) (by decide) hk1 hFc hP1 hD1
        generalize H1 = H at hP hS ⊢
        replace hP := hP.sub (ws' := (wSg a cI cJ x_14.2.1 x_14.2.2.1 K x_19.2 I T ++ [(adt, .inl (cI, nt, .inl ft))] ++ [(q_6, .inl (cI, ((if (0 : Int32) < x_1.1 then x_1.1 else 0).toNatClampNeg), .inl z_11.2.2))] ++ [(q_8, .inl (cI, x2.toNatClampNeg, .inl z_12.2))] ++ [(q_10, .inl (cZ, x_4.toNatClampNeg, .inl z_13.2.2))])) [4, 5, 6, 7, 8, 9, 10, 11, 12, 13, 14, 15, 16, 17, 18, 19, 20, 21, 0, 1, 2, 3] rfl
        replace hD := hD.sub (ws' := (wSg a cI cJ x_14.2.1 x_14.2.2.1 K x_19.2 I T ++ [(adt, .inl (cI, nt, .inl ft))] ++ [(q_6, .inl (cI, ((if (0 : Int32) < x_1.1 then x_1.1 else 0).toNatClampNeg), .inl z_11.2.2))] ++ [(q_8, .inl (cI, x2.toNatClampNeg, .inl z_12.2))] ++ [(q_10, .inl (cZ, x_4.toNatClampNeg, .inl z_13.2.2))])) [4, 5, 6, 7, 8, 9, 10, 11, 12, 13, 14, 15, 16, 17, 18, 19, 20, 21, 0, 1, 2, 3] (by decide) rfl
        have hP : va_P (dC, dI) vwCl (wSg a cI cJ x_14.2.1 x_14.2.2.1 K x_19.2 I T ++ [(adt, .inl (cI, nt, .inl ft))] ++ [(q_6, .inl (cI, ((if (0 : Int32) < x_1.1 then x_1.1 else 0).toNatClampNeg), .inl z_11.2.2))] ++ [(q_8, .inl (cI, x2.toNatClampNeg, .inl z_12.2))] ++ [(q_10, .inl (cZ, x_4.toNatClampNeg, .inl z_13.2.2))]) H := hP
        have hD : va_D A (wSg a cI cJ x_14.2.1 x_14.2.2.1 K x_19.2 I T ++ [(adt, .inl (cI, nt, .inl ft))] ++ [(q_6, .inl (cI, ((if (0 : Int32) < x_1.1 then x_1.1 else 0).toNatClampNeg), .inl z_11.2.2))] ++ [(q_8, .inl (cI, x2.toNatClampNeg, .inl z_12.2))] ++ [(q_10, .inl (cZ, x_4.toNatClampNeg, .inl z_13.2.2))]) := hD
        refine lv_if_ne (tgt := 226) hx hb dL_isShown_213 (by decide) (fun c_20 => ?_) (fun c_20 => ?_)
        · replace hf := (if_neg c_20).symm.trans hf
          refine lv_aload_n hx hb dL_isShown_226 rfl (lv_at hl 8 rfl) ?_
          refine lv_iload_n hx hb dL_isShown_227 rfl (lv_at hl 9 rfl) ?_
          refine lv_bipush (v := 6) hx hb dL_isShown_228 (by decide) ?_
          obtain ⟨x_21, hx_21, hf⟩ := Option.bind_eq_some_iff.mp hf
          have hPc := hP.sub (ws' := (wSg a cI cJ x_14.2.1 x_14.2.2.1 K x_19.2 I T)) [0, 1, 2, 3, 4, 5, 6, 7, 8, 9, 10, 11, 12, 13, 14, 15, 16, 17] rfl
          have hDc := hD.sub (ws' := (wSg a cI cJ x_14.2.1 x_14.2.2.1 K x_19.2 I T)) [0, 1, 2, 3, 4, 5, 6, 7, 8, 9, 10, 11, 12, 13, 14, 15, 16, 17] (by decide) rfl
          have hFc := va_free (wc := (wSg a cI cJ x_14.2.1 x_14.2.2.1 K x_19.2 I T)) hD hS hA [0, 1, 2, 3, 4, 5, 6, 7, 8, 9, 10, 11, 12, 13, 14, 15, 16, 17] rfl
          refine va_calli (va_runV (As := [.int x1, .int 6]) (rest := []) ⟨hx, hb, hml, hown, hts⟩ (c_X5_ofLine l dC dI cI cJ a H.size x_14.2.1 x_14.2.2.1 K x_19.2 I T x1 6 x_21 hx_21) (cwV 2 hts gM_isShown_X5_ofLine rfl rfl rfl (by decide +kernel) ⟨Nat.le_of_ble_eq_true rfl, Nat.le_of_ble_eq_true rfl⟩) ⟨q_Wblind, va_recv (hK.sub (tys' := q_ty cI cJ) [0, 1] rfl) hPc (ci := 5) (q0 := 0) rfl rfl, q_Wpre hPc (hK.sub (tys' := q_ty cI cJ) [0, 1] rfl) hn hDc⟩ rfl rfl hl.1 rfl (lv_room (Nat.le_of_ble_eq_true rfl)) dL_isShown_230 ⟨by show 3 + 0 ≤ 193; omega, by show 192 + 0 ≤ 7412; omega⟩) hS (fun q _ h => hFc q h) hFc (fun r_9 u t H1 locs ht hvm hw hB hz1 hk1 hS => ?_)
          subst hw
          obtain ⟨hP1, hK1, hD1⟩ := hB
          rw [ht] at hP1
          obtain ⟨hP, hD⟩ := va_join (wr := ([(adt, .inl (cI, nt, .inl ft))] ++ [(q_6, .inl (cI, ((if (0 : Int32) < x_1.1 then x_1.1 else 0).toNatClampNeg), .inl z_11.2.2))] ++ [(q_8, .inl (cI, x2.toNatClampNeg, .inl z_12.2))] ++ [(q_10, .inl (cZ, x_4.toNatClampNeg, .inl z_13.2.2))])) (w1 := (wSg a cI cJ x_14.2.1 x_14.2.2.1 K x_21.2 I T)) hP hD [0, 1, 2, 3, 4, 5, 6, 7, 8, 9, 10, 11, 12, 13, 14, 15, 16, 17] [18, 19, 20, 21] rfl rfl (by decide) (by decide) hk1 hFc hP1 hD1
          generalize H1 = H at hP hS ⊢
          replace hP := hP.sub (ws' := (wSg a cI cJ x_14.2.1 x_14.2.2.1 K x_21.2 I T ++ [(adt, .inl (cI, nt, .inl ft))] ++ [(q_6, .inl (cI, ((if (0 : Int32) < x_1.1 then x_1.1 else 0).toNatClampNeg), .inl z_11.2.2))] ++ [(q_8, .inl (cI, x2.toNatClampNeg, .inl z_12.2))] ++ [(q_10, .inl (cZ, x_4.toNatClampNeg, .inl z_13.2.2))])) [4, 5, 6, 7, 8, 9, 10, 11, 12, 13, 14, 15, 16, 17, 18, 19, 20, 21, 0, 1, 2, 3] rfl
          replace hD := hD.sub (ws' := (wSg a cI cJ x_14.2.1 x_14.2.2.1 K x_21.2 I T ++ [(adt, .inl (cI, nt, .inl ft))] ++ [(q_6, .inl (cI, ((if (0 : Int32) < x_1.1 then x_1.1 else 0).toNatClampNeg), .inl z_11.2.2))] ++ [(q_8, .inl (cI, x2.toNatClampNeg, .inl z_12.2))] ++ [(q_10, .inl (cZ, x_4.toNatClampNeg, .inl z_13.2.2))])) [4, 5, 6, 7, 8, 9, 10, 11, 12, 13, 14, 15, 16, 17, 18, 19, 20, 21, 0, 1, 2, 3] (by decide) rfl
          have hP : va_P (dC, dI) vwCl (wSg a cI cJ x_14.2.1 x_14.2.2.1 K x_21.2 I T ++ [(adt, .inl (cI, nt, .inl ft))] ++ [(q_6, .inl (cI, ((if (0 : Int32) < x_1.1 then x_1.1 else 0).toNatClampNeg), .inl z_11.2.2))] ++ [(q_8, .inl (cI, x2.toNatClampNeg, .inl z_12.2))] ++ [(q_10, .inl (cZ, x_4.toNatClampNeg, .inl z_13.2.2))]) H := hP
          have hD : va_D A (wSg a cI cJ x_14.2.1 x_14.2.2.1 K x_21.2 I T ++ [(adt, .inl (cI, nt, .inl ft))] ++ [(q_6, .inl (cI, ((if (0 : Int32) < x_1.1 then x_1.1 else 0).toNatClampNeg), .inl z_11.2.2))] ++ [(q_8, .inl (cI, x2.toNatClampNeg, .inl z_12.2))] ++ [(q_10, .inl (cZ, x_4.toNatClampNeg, .inl z_13.2.2))]) := hD
          refine lv_if_eq (tgt := 238) hx hb dL_isShown_233 (by decide) (fun c_22 => ?_) (fun c_22 => ?_)
          · replace hf := (if_pos c_22).symm.trans hf
            refine lv_iconst (v := 0) hx hb dL_isShown_238 (by decide) ?_
            refine lv_istore (lv' := [(11, .int 0), (10, .ref q_10), (9, .ref q_8), (8, .ref q_6), (7, .int x_4), (6, .int x_3), (5, .int x_2.1), (4, .int x_1.1), (0, .ref (a 0)), (1, .int x1), (2, .int x2), (3, .ref adt)]) hx hb dL_isShown_239 hl (by decide) rfl (fun ls hl => ?_)
            refine lv_iconst (v := 0) hx hb dL_isShown_241 (by decide) ?_
            refine lv_istore (lv' := [(12, .int 0), (11, .int 0), (10, .ref q_10), (9, .ref q_8), (8, .ref q_6), (7, .int x_4), (6, .int x_3), (5, .int x_2.1), (4, .int x_1.1), (0, .ref (a 0)), (1, .int x1), (2, .int x2), (3, .ref adt)]) hx hb dL_isShown_242 hl (by decide) rfl (fun ls hl => ?_)
            have L_244 := lt_isShown_244 (p := p) (e := e) (s := s) (m := m) (below := below) (meth := meth) (c := c) (A := A) l dC dI cI cJ cZ a adt r0 x1 x2 K I T nt ft x_1 x_2 x_3 x_4 z_11 z_12 z_13 x_14 q_6 q_8 q_10 C  
            obtain ⟨z_23, hz_23, hf⟩ := Option.bind_eq_some_iff.mp hf
            refine L_244 10 0 0 x_21.2 3 192 H locs ls z_23 (lv_sub hl [0, 1, 2, 3, 4, 5, 6, 7, 8, 9, 10, 11, 12] rfl) (by omega) (by omega) hP hD hS hz_23 (fun r_ hz => by rw [hz] at hf; exact Option.some.inj hf) (fun y_24 H locs ls hz hl hP hD hS => ?_)
            subst hz
            simp only [Sum.elim_inr] at hf
            refine lv_iconst (v := 1) hx hb dL_isShown_416 (by decide) ?_
            replace hf := Option.some.inj hf
            subst hf
            have hP9 := hP.sub (ws' := (wSg a cI cJ x_14.2.1 x_14.2.2.1 K y_24.2.2 I T ++ [(adt, .inl (cI, nt, .inl ft))])) [0, 1, 2, 3, 4, 5, 6, 7, 8, 9, 10, 11, 12, 13, 14, 15, 16, 17, 18] rfl
            have hD9 := hD.sub (ws' := (wSg a cI cJ x_14.2.1 x_14.2.2.1 K y_24.2.2 I T ++ [(adt, .inl (cI, nt, .inl ft))])) [0, 1, 2, 3, 4, 5, 6, 7, 8, 9, 10, 11, 12, 13, 14, 15, 16, 17, 18] (by decide) rfl
            exact W.zret (v := 1) (ty := .boolean) hx hb hr rfl (fun t ht hW => ⟨⟨1, (), rfl, rfl, ⟨by rw [ht]; exact hP9, va_K.moved hW.alike hK, hD9⟩⟩, hS.F ht⟩) hS.2.2 dL_isShown_417
          · replace hf := (if_neg c_22).symm.trans hf
            refine lv_iconst (v := 0) hx hb dL_isShown_236 (by decide) ?_
            replace hf := Option.some.inj hf
            subst hf
            have hP9 := hP.sub (ws' := (wSg a cI cJ x_14.2.1 x_14.2.2.1 K x_21.2 I T ++ [(adt, .inl (cI, nt, .inl ft))])) [0, 1, 2, 3, 4, 5, 6, 7, 8, 9, 10, 11, 12, 13, 14, 15, 16, 17, 18] rfl
            have hD9 := hD.sub (ws' := (wSg a cI cJ x_14.2.1 x_14.2.2.1 K x_21.2 I T ++ [(adt, .inl (cI, nt, .inl ft))])) [0, 1, 2, 3, 4, 5, 6, 7, 8, 9, 10, 11, 12, 13, 14, 15, 16, 17, 18] (by decide) rfl
            refine W.widen (k := 193) (n := 7412) (by omega) (by omega) ?_
            exact W.zret (v := 0) (ty := .boolean) hx hb hr rfl (fun t ht hW => ⟨⟨0, (), rfl, rfl, ⟨by rw [ht]; exact hP9, va_K.moved hW.alike hK, hD9⟩⟩, hS.F ht⟩) hS.2.2 dL_isShown_237
        · replace hf := (if_pos c_20).symm.trans hf
          refine lv_aload_n hx hb dL_isShown_216 rfl (lv_at hl 8 rfl) ?_
          refine lv_iload_n hx hb dL_isShown_217 rfl (lv_at hl 9 rfl) ?_
          refine lv_iconst (v := 5) hx hb dL_isShown_218 (by decide) ?_
          obtain ⟨x_25, hx_25, hf⟩ := Option.bind_eq_some_iff.mp hf
          have hPc := hP.sub (ws' := (wSg a cI cJ x_14.2.1 x_14.2.2.1 K x_19.2 I T)) [0, 1, 2, 3, 4, 5, 6, 7, 8, 9, 10, 11, 12, 13, 14, 15, 16, 17] rfl
          have hDc := hD.sub (ws' := (wSg a cI cJ x_14.2.1 x_14.2.2.1 K x_19.2 I T)) [0, 1, 2, 3, 4, 5, 6, 7, 8, 9, 10, 11, 12, 13, 14, 15, 16, 17] (by decide) rfl
          have hFc := va_free (wc := (wSg a cI cJ x_14.2.1 x_14.2.2.1 K x_19.2 I T)) hD hS hA [0, 1, 2, 3, 4, 5, 6, 7, 8, 9, 10, 11, 12, 13, 14, 15, 16, 17] rfl
          refine va_calli (va_runV (As := [.int x1, .int 5]) (rest := []) ⟨hx, hb, hml, hown, hts⟩ (c_X5_ofLine l dC dI cI cJ a H.size x_14.2.1 x_14.2.2.1 K x_19.2 I T x1 5 x_25 hx_25) (cwV 2 hts gM_isShown_X5_ofLine rfl rfl rfl (by decide +kernel) ⟨Nat.le_of_ble_eq_true rfl, Nat.le_of_ble_eq_true rfl⟩) ⟨q_Wblind, va_recv (hK.sub (tys' := q_ty cI cJ) [0, 1] rfl) hPc (ci := 5) (q0 := 0) rfl rfl, q_Wpre hPc (hK.sub (tys' := q_ty cI cJ) [0, 1] rfl) hn hDc⟩ rfl rfl hl.1 rfl (lv_room (Nat.le_of_ble_eq_true rfl)) dL_isShown_219 ⟨by show 3 + 0 ≤ 193; omega, by show 192 + 0 ≤ 7412; omega⟩) hS (fun q _ h => hFc q h) hFc (fun r_9 u t H1 locs ht hvm hw hB hz1 hk1 hS => ?_)
          subst hw
          obtain ⟨hP1, hK1, hD1⟩ := hB
          rw [ht] at hP1
          obtain ⟨hP, hD⟩ := va_join (wr := ([(adt, .inl (cI, nt, .inl ft))] ++ [(q_6, .inl (cI, ((if (0 : Int32) < x_1.1 then x_1.1 else 0).toNatClampNeg), .inl z_11.2.2))] ++ [(q_8, .inl (cI, x2.toNatClampNeg, .inl z_12.2))] ++ [(q_10, .inl (cZ, x_4.toNatClampNeg, .inl z_13.2.2))])) (w1 := (wSg a cI cJ x_14.2.1 x_14.2.2.1 K x_25.2 I T)) hP hD [0, 1, 2, 3, 4, 5, 6, 7, 8, 9, 10, 11, 12, 13, 14, 15, 16, 17] [18, 19, 20, 21] rfl rfl (by decide) (by decide) hk1 hFc hP1 hD1
          generalize H1 = H at hP hS ⊢
          replace hP := hP.sub (ws' := (wSg a cI cJ x_14.2.1 x_14.2.2.1 K x_25.2 I T ++ [(adt, .inl (cI, nt, .inl ft))] ++ [(q_6, .inl (cI, ((if (0 : Int32) < x_1.1 then x_1.1 else 0).toNatClampNeg), .inl z_11.2.2))] ++ [(q_8, .inl (cI, x2.toNatClampNeg, .inl z_12.2))] ++ [(q_10, .inl (cZ, x_4.toNatClampNeg, .inl z_13.2.2))])) [4, 5, 6, 7, 8, 9, 10, 11, 12, 13, 14, 15, 16, 17, 18, 19, 20, 21, 0, 1, 2, 3] rfl
          replace hD := hD.sub (ws' := (wSg a cI cJ x_14.2.1 x_14.2.2.1 K x_25.2 I T ++ [(adt, .inl (cI, nt, .inl ft))] ++ [(q_6, .inl (cI, ((if (0 : Int32) < x_1.1 then x_1.1 else 0).toNatClampNeg), .inl z_11.2.2))] ++ [(q_8, .inl (cI, x2.toNatClampNeg, .inl z_12.2))] ++ [(q_10, .inl (cZ, x_4.toNatClampNeg, .inl z_13.2.2))])) [4, 5, 6, 7, 8, 9, 10, 11, 12, 13, 14, 15, 16, 17, 18, 19, 20, 21, 0, 1, 2, 3] (by decide) rfl
          have hP : va_P (dC, dI) vwCl (wSg a cI cJ x_14.2.1 x_14.2.2.1 K x_25.2 I T ++ [(adt, .inl (cI, nt, .inl ft))] ++ [(q_6, .inl (cI, ((if (0 : Int32) < x_1.1 then x_1.1 else 0).toNatClampNeg), .inl z_11.2.2))] ++ [(q_8, .inl (cI, x2.toNatClampNeg, .inl z_12.2))] ++ [(q_10, .inl (cZ, x_4.toNatClampNeg, .inl z_13.2.2))]) H := hP
          have hD : va_D A (wSg a cI cJ x_14.2.1 x_14.2.2.1 K x_25.2 I T ++ [(adt, .inl (cI, nt, .inl ft))] ++ [(q_6, .inl (cI, ((if (0 : Int32) < x_1.1 then x_1.1 else 0).toNatClampNeg), .inl z_11.2.2))] ++ [(q_8, .inl (cI, x2.toNatClampNeg, .inl z_12.2))] ++ [(q_10, .inl (cZ, x_4.toNatClampNeg, .inl z_13.2.2))]) := hD
          refine lv_iconst (v := 1) hx hb dL_isShown_222 (by decide) ?_
          refine lv_icmp_ne (tgt := 236) hx hb dL_isShown_223 (by decide) (fun c_26 => ?_) (fun c_26 => ?_)
          · replace hf := (if_neg c_26).symm.trans hf
            refine lv_iconst (v := 0) hx hb dL_isShown_236 (by decide) ?_
            replace hf := Option.some.inj hf
            subst hf
            have hP9 := hP.sub (ws' := (wSg a cI cJ x_14.2.1 x_14.2.2.1 K x_25.2 I T ++ [(adt, .inl (cI, nt, .inl ft))])) [0, 1, 2, 3, 4, 5, 6, 7, 8, 9, 10, 11, 12, 13, 14, 15, 16, 17, 18] rfl
            have hD9 := hD.sub (ws' := (wSg a cI cJ x_14.2.1 x_14.2.2.1 K x_25.2 I T ++ [(adt, .inl (cI, nt, .inl ft))])) [0, 1, 2, 3, 4, 5, 6, 7, 8, 9, 10, 11, 12, 13, 14, 15, 16, 17, 18] (by decide) rfl
            refine W.widen (k := 193) (n := 7412) (by omega) (by omega) ?_
            exact W.zret (v := 0) (ty := .boolean) hx hb hr rfl (fun t ht hW => ⟨⟨0, (), rfl, rfl, ⟨by rw [ht]; exact hP9, va_K.moved hW.alike hK, hD9⟩⟩, hS.F ht⟩) hS.2.2 dL_isShown_237
          · replace hf := (if_pos c_26).symm.trans hf
            refine lv_aload_n hx hb dL_isShown_226 rfl (lv_at hl 8 rfl) ?_
            refine lv_iload_n hx hb dL_isShown_227 rfl (lv_at hl 9 rfl) ?_
            refine lv_bipush (v := 6) hx hb dL_isShown_228 (by decide) ?_
            obtain ⟨x_27, hx_27, hf⟩ := Option.bind_eq_some_iff.mp hf
            have hPc := hP.sub (ws' := (wSg a cI cJ x_14.2.1 x_14.2.2.1 K x_25.2 I T)) [0, 1, 2, 3, 4, 5, 6, 7, 8, 9, 10, 11, 12, 13, 14, 15, 16, 17] rfl
            have hDc := hD.sub (ws' := (wSg a cI cJ x_14.2.1 x_14.2.2.1 K x_25.2 I T)) [0, 1, 2, 3, 4, 5, 6, 7, 8, 9, 10, 11, 12, 13, 14, 15, 16, 17] (by decide) rfl
            have hFc := va_free (wc := (wSg a cI cJ x_14.2.1 x_14.2.2.1 K x_25.2 I T)) hD hS hA [0, 1, 2, 3, 4, 5, 6, 7, 8, 9, 10, 11, 12, 13, 14, 15, 16, 17] rfl
            refine va_calli (va_runV (As := [.int x1, .int 6]) (rest := []) ⟨hx, hb, hml, hown, hts⟩ (c_X5_ofLine l dC dI cI cJ a H.size x_14.2.1 x_14.2.2.1 K x_25.2 I T x1 6 x_27 hx_27) (cwV 2 hts gM_isShown_X5_ofLine rfl rfl rfl (by decide +kernel) ⟨Nat.le_of_ble_eq_true rfl, Nat.le_of_ble_eq_true rfl⟩) ⟨q_Wblind, va_recv (hK.sub (tys' := q_ty cI cJ) [0, 1] rfl) hPc (ci := 5) (q0 := 0) rfl rfl, q_Wpre hPc (hK.sub (tys' := q_ty cI cJ) [0, 1] rfl) hn hDc⟩ rfl rfl hl.1 rfl (lv_room (Nat.le_of_ble_eq_true rfl)) dL_isShown_230 ⟨by show 3 + 0 ≤ 193; omega, by show 192 + 0 ≤ 7412; omega⟩) hS (fun q _ h => hFc q h) hFc (fun r_9 u t H1 locs ht hvm hw hB hz1 hk1 hS => ?_)
            subst hw
            obtain ⟨hP1, hK1, hD1⟩ := hB
            rw [ht] at hP1
            obtain ⟨hP, hD⟩ := va_join (wr := ([(adt, .inl (cI, nt, .inl ft))] ++ [(q_6, .inl (cI, ((if (0 : Int32) < x_1.1 then x_1.1 else 0).toNatClampNeg), .inl z_11.2.2))] ++ [(q_8, .inl (cI, x2.toNatClampNeg, .inl z_12.2))] ++ [(q_10, .inl (cZ, x_4.toNatClampNeg, .inl z_13.2.2))])) (w1 := (wSg a cI cJ x_14.2.1 x_14.2.2.1 K x_27.2 I T)) hP hD [0, 1, 2, 3, 4, 5, 6, 7, 8, 9, 10, 11, 12, 13, 14, 15, 16, 17] [18, 19, 20, 21] rfl rfl (by decide) (by decide) hk1 hFc hP1 hD1
            generalize H1 = H at hP hS ⊢
            replace hP := hP.sub (ws' := (wSg a cI cJ x_14.2.1 x_14.2.2.1 K x_27.2 I T ++ [(adt, .inl (cI, nt, .inl ft))] ++ [(q_6, .inl (cI, ((if (0 : Int32) < x_1.1 then x_1.1 else 0).toNatClampNeg), .inl z_11.2.2))] ++ [(q_8, .inl (cI, x2.toNatClampNeg, .inl z_12.2))] ++ [(q_10, .inl (cZ, x_4.toNatClampNeg, .inl z_13.2.2))])) [4, 5, 6, 7, 8, 9, 10, 11, 12, 13, 14, 15, 16, 17, 18, 19, 20, 21, 0, 1, 2, 3] rfl
            replace hD := hD.sub (ws' := (wSg a cI cJ x_14.2.1 x_14.2.2.1 K x_27.2 I T ++ [(adt, .inl (cI, nt, .inl ft))] ++ [(q_6, .inl (cI, ((if (0 : Int32) < x_1.1 then x_1.1 else 0).toNatClampNeg), .inl z_11.2.2))] ++ [(q_8, .inl (cI, x2.toNatClampNeg, .inl z_12.2))] ++ [(q_10, .inl (cZ, x_4.toNatClampNeg, .inl z_13.2.2))])) [4, 5, 6, 7, 8, 9, 10, 11, 12, 13, 14, 15, 16, 17, 18, 19, 20, 21, 0, 1, 2, 3] (by decide) rfl
            have hP : va_P (dC, dI) vwCl (wSg a cI cJ x_14.2.1 x_14.2.2.1 K x_27.2 I T ++ [(adt, .inl (cI, nt, .inl ft))] ++ [(q_6, .inl (cI, ((if (0 : Int32) < x_1.1 then x_1.1 else 0).toNatClampNeg), .inl z_11.2.2))] ++ [(q_8, .inl (cI, x2.toNatClampNeg, .inl z_12.2))] ++ [(q_10, .inl (cZ, x_4.toNatClampNeg, .inl z_13.2.2))]) H := hP
            have hD : va_D A (wSg a cI cJ x_14.2.1 x_14.2.2.1 K x_27.2 I T ++ [(adt, .inl (cI, nt, .inl ft))] ++ [(q_6, .inl (cI, ((if (0 : Int32) < x_1.1 then x_1.1 else 0).toNatClampNeg), .inl z_11.2.2))] ++ [(q_8, .inl (cI, x2.toNatClampNeg, .inl z_12.2))] ++ [(q_10, .inl (cZ, x_4.toNatClampNeg, .inl z_13.2.2))]) := hD
            refine lv_if_eq (tgt := 238) hx hb dL_isShown_233 (by decide) (fun c_28 => ?_) (fun c_28 => ?_)
            · replace hf := (if_pos c_28).symm.trans hf
              refine lv_iconst (v := 0) hx hb dL_isShown_238 (by decide) ?_
              refine lv_istore (lv' := [(11, .int 0), (10, .ref q_10), (9, .ref q_8), (8, .ref q_6), (7, .int x_4), (6, .int x_3), (5, .int x_2.1), (4, .int x_1.1), (0, .ref (a 0)), (1, .int x1), (2, .int x2), (3, .ref adt)]) hx hb dL_isShown_239 hl (by decide) rfl (fun ls hl => ?_)
              refine lv_iconst (v := 0) hx hb dL_isShown_241 (by decide) ?_
              refine lv_istore (lv' := [(12, .int 0), (11, .int 0), (10, .ref q_10), (9, .ref q_8), (8, .ref q_6), (7, .int x_4), (6, .int x_3), (5, .int x_2.1), (4, .int x_1.1), (0, .ref (a 0)), (1, .int x1), (2, .int x2), (3, .ref adt)]) hx hb dL_isShown_242 hl (by decide) rfl (fun ls hl => ?_)
              have L_244 := lt_isShown_244 (p := p) (e := e) (s := s) (m := m) (below := below) (meth := meth) (c := c) (A := A) l dC dI cI cJ cZ a adt r0 x1 x2 K I T nt ft x_1 x_2 x_3 x_4 z_11 z_12 z_13 x_14 q_6 q_8 q_10 C  
              obtain ⟨z_29, hz_29, hf⟩ := Option.bind_eq_some_iff.mp hf
              refine L_244 10 0 0 x_27.2 3 192 H locs ls z_29 (lv_sub hl [0, 1, 2, 3, 4, 5, 6, 7, 8, 9, 10, 11, 12] rfl) (by omega) (by omega) hP hD hS hz_29 (fun r_ hz => by rw [hz] at hf; exact Option.some.inj hf) (fun y_30 H locs ls hz hl hP hD hS => ?_)
              subst hz
              simp only [Sum.elim_inr] at hf
              refine lv_iconst (v := 1) hx hb dL_isShown_416 (by decide) ?_
              replace hf := Option.some.inj hf
              subst hf
              have hP9 := hP.sub (ws' := (wSg a cI cJ x_14.2.1 x_14.2.2.1 K y_30.2.2 I T ++ [(adt, .inl (cI, nt, .inl ft))])) [0, 1, 2, 3, 4, 5, 6, 7, 8, 9, 10, 11, 12, 13, 14, 15, 16, 17, 18] rfl
              have hD9 := hD.sub (ws' := (wSg a cI cJ x_14.2.1 x_14.2.2.1 K y_30.2.2 I T ++ [(adt, .inl (cI, nt, .inl ft))])) [0, 1, 2, 3, 4, 5, 6, 7, 8, 9, 10, 11, 12, 13, 14, 15, 16, 17, 18] (by decide) rfl
              exact W.zret (v := 1) (ty := .boolean) hx hb hr rfl (fun t ht hW => ⟨⟨1, (), rfl, rfl, ⟨by rw [ht]; exact hP9, va_K.moved hW.alike hK, hD9⟩⟩, hS.F ht⟩) hS.2.2 dL_isShown_417
            · replace hf := (if_neg c_28).symm.trans hf
              refine lv_iconst (v := 0) hx hb dL_isShown_236 (by decide) ?_
              replace hf := Option.some.inj hf
              subst hf
              have hP9 := hP.sub (ws' := (wSg a cI cJ x_14.2.1 x_14.2.2.1 K x_27.2 I T ++ [(adt, .inl (cI, nt, .inl ft))])) [0, 1, 2, 3, 4, 5, 6, 7, 8, 9, 10, 11, 12, 13, 14, 15, 16, 17, 18] rfl
              have hD9 := hD.sub (ws' := (wSg a cI cJ x_14.2.1 x_14.2.2.1 K x_27.2 I T ++ [(adt, .inl (cI, nt, .inl ft))])) [0, 1, 2, 3, 4, 5, 6, 7, 8, 9, 10, 11, 12, 13, 14, 15, 16, 17, 18] (by decide) rfl
              refine W.widen (k := 193) (n := 7412) (by omega) (by omega) ?_
              exact W.zret (v := 0) (ty := .boolean) hx hb hr rfl (fun t ht hW => ⟨⟨0, (), rfl, rfl, ⟨by rw [ht]; exact hP9, va_K.moved hW.alike hK, hD9⟩⟩, hS.F ht⟩) hS.2.2 dL_isShown_237
    · replace hf := (if_neg c_16).symm.trans hf
      refine lv_aload_n hx hb dL_isShown_170 rfl (lv_at hl 8 rfl) ?_
      refine lv_bipush (v := 7) hx hb dL_isShown_171 (by decide) ?_
      obtain ⟨x_31, hx_31, hf⟩ := Option.bind_eq_some_iff.mp hf
      refine q_rV (As := [.int 7]) (rest := []) ⟨hx, hb, hml, hown, hts⟩ (c_X5_sign l dC dI cI cJ a x_14.2.1 x_14.2.2.1 K x_14.2.2.2 I T 7 x_31 hx_31) (cwV 1 hts gM_isShown_X5_sign rfl rfl rfl (by decide +kernel) ⟨Nat.le_of_ble_eq_true rfl, Nat.le_of_ble_eq_true rfl⟩) (hK.sub (tys' := q_ty cI cJ) [0, 1] rfl) hn (hP.sub (ws' := (wSg a cI cJ x_14.2.1 x_14.2.2.1 K x_14.2.2.2 I T)) [0, 1, 2, 3, 4, 5, 6, 7, 8, 9, 10, 11, 12, 13, 14, 15, 16, 17] rfl) (ci := 5) rfl rfl rfl hl.1 rfl (Nat.le_of_ble_eq_true rfl) dL_isShown_173 ⟨by show 3 ≤ 193; omega, by show 192 ≤ 7412; omega⟩ ?_
      refine lv_iload hx hb dL_isShown_176 (lv_at hl 5 rfl) ?_
      refine lv_icmp_ne (tgt := 191) hx hb dL_isShown_178 (by decide) (fun c_32 => ?_) (fun c_32 => ?_)
      · replace hf := (if_neg c_32).symm.trans hf
        refine lv_iconst (v := 0) hx hb dL_isShown_191 (by decide) ?_
        replace hf := Option.some.inj hf
        subst hf
        have hP9 := hP.sub (ws' := (wSg a cI cJ x_14.2.1 x_14.2.2.1 K x_14.2.2.2 I T ++ [(adt, .inl (cI, nt, .inl ft))])) [0, 1, 2, 3, 4, 5, 6, 7, 8, 9, 10, 11, 12, 13, 14, 15, 16, 17, 18] rfl
        have hD9 := hD.sub (ws' := (wSg a cI cJ x_14.2.1 x_14.2.2.1 K x_14.2.2.2 I T ++ [(adt, .inl (cI, nt, .inl ft))])) [0, 1, 2, 3, 4, 5, 6, 7, 8, 9, 10, 11, 12, 13, 14, 15, 16, 17, 18] (by decide) rfl
        refine W.widen (k := 193) (n := 7412) (by omega) (by omega) ?_
        exact W.zret (v := 0) (ty := .boolean) hx hb hr rfl (fun t ht hW => ⟨⟨0, (), rfl, rfl, ⟨by rw [ht]; exact hP9, va_K.moved hW.alike hK, hD9⟩⟩, hS.F ht⟩) hS.2.2 dL_isShown_192
      · replace hf := (if_pos c_32).symm.trans hf
        refine lv_iload hx hb dL_isShown_181 (lv_at hl 6 rfl) ?_
        refine lv_iconst (v := (-1)) hx hb dL_isShown_183 (by decide) ?_
        refine lv_icmp_ne (tgt := 191) hx hb dL_isShown_184 (by decide) (fun c_33 => ?_) (fun c_33 => ?_)
        · replace hf := (if_neg c_33).symm.trans hf
          refine lv_iconst (v := 0) hx hb dL_isShown_191 (by decide) ?_
          replace hf := Option.some.inj hf
          subst hf
          have hP9 := hP.sub (ws' := (wSg a cI cJ x_14.2.1 x_14.2.2.1 K x_14.2.2.2 I T ++ [(adt, .inl (cI, nt, .inl ft))])) [0, 1, 2, 3, 4, 5, 6, 7, 8, 9, 10, 11, 12, 13, 14, 15, 16, 17, 18] rfl
          have hD9 := hD.sub (ws' := (wSg a cI cJ x_14.2.1 x_14.2.2.1 K x_14.2.2.2 I T ++ [(adt, .inl (cI, nt, .inl ft))])) [0, 1, 2, 3, 4, 5, 6, 7, 8, 9, 10, 11, 12, 13, 14, 15, 16, 17, 18] (by decide) rfl
          refine W.widen (k := 193) (n := 7412) (by omega) (by omega) ?_
          exact W.zret (v := 0) (ty := .boolean) hx hb hr rfl (fun t ht hW => ⟨⟨0, (), rfl, rfl, ⟨by rw [ht]; exact hP9, va_K.moved hW.alike hK, hD9⟩⟩, hS.F ht⟩) hS.2.2 dL_isShown_192
        · replace hf := (if_pos c_33).symm.trans hf
          refine lv_iconst (v := 1) hx hb dL_isShown_187 (by decide) ?_
          refine lv_goto (tgt := 192) hx hb dL_isShown_188 (by decide) ?_
          replace hf := Option.some.inj hf
          subst hf
          have hP9 := hP.sub (ws' := (wSg a cI cJ x_14.2.1 x_14.2.2.1 K x_14.2.2.2 I T ++ [(adt, .inl (cI, nt, .inl ft))])) [0, 1, 2, 3, 4, 5, 6, 7, 8, 9, 10, 11, 12, 13, 14, 15, 16, 17, 18] rfl
          have hD9 := hD.sub (ws' := (wSg a cI cJ x_14.2.1 x_14.2.2.1 K x_14.2.2.2 I T ++ [(adt, .inl (cI, nt, .inl ft))])) [0, 1, 2, 3, 4, 5, 6, 7, 8, 9, 10, 11, 12, 13, 14, 15, 16, 17, 18] (by decide) rfl
          refine W.widen (k := 193) (n := 7412) (by omega) (by omega) ?_
          exact W.zret (v := 1) (ty := .boolean) hx hb hr rfl (fun t ht hW => ⟨⟨1, (), rfl, rfl, ⟨by rw [ht]; exact hP9, va_K.moved hW.alike hK, hD9⟩⟩, hS.F ht⟩) hS.2.2 dL_isShown_192
  · replace hf := (if_neg c_15).symm.trans hf
    refine lv_iconst (v := 0) hx hb dL_isShown_163 (by decide) ?_
    replace hf := Option.some.inj hf
    subst hf
    have hP9 := hP.sub (ws' := (wSg a cI cJ x_14.2.1 x_14.2.2.1 K x_14.2.2.2 I T ++ [(adt, .inl (cI, nt, .inl ft))])) [0, 1, 2, 3, 4, 5, 6, 7, 8, 9, 10, 11, 12, 13, 14, 15, 16, 17, 18] rfl
    have hD9 := hD.sub (ws' := (wSg a cI cJ x_14.2.1 x_14.2.2.1 K x_14.2.2.2 I T ++ [(adt, .inl (cI, nt, .inl ft))])) [0, 1, 2, 3, 4, 5, 6, 7, 8, 9, 10, 11, 12, 13, 14, 15, 16, 17, 18] (by decide) rfl
    refine W.widen (k := 193) (n := 7412) (by omega) (by omega) ?_
    exact W.zret (v := 0) (ty := .boolean) hx hb hr rfl (fun t ht hW => ⟨⟨0, (), rfl, rfl, ⟨by rw [ht]; exact hP9, va_K.moved hW.alike hK, hD9⟩⟩, hS.F ht⟩) hS.2.2 dL_isShown_164
