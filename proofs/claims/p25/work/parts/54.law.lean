set_option maxHeartbeats 16000000 in
set_option maxRecDepth 100000 in
theorem law_walk {p : Program} {e : Env} {s : State} {m : MethodId} {below : List Frame} {meth : Method} {c : Code} (l : Launch) (hfl : l.stackTraces = false) {b L : Nat} {xs : Nat → Int32} (C0 : lw_At p s m meth c b L xs) (dC : Nat → ClassId) (dI : Nat → Nat → Nat) (cI cJ cZ : ClassId) (hK : va_K (dC, dI) vwCl (q_ty3 cI cJ cZ) s) (hn : nwA s) (hXX : q_X (fun q : Nat => s.heap.size ≤ q) s s.heap) (hf : f_L_law L xs = some 1) : W p l e room_1 s m #[Value.ref b] below meth c s.heap [] 0 0 (lw_Z below #[Value.ref b] s) (entryFrame m ([Value.ref b] : List Value).toArray 9) := by
  obtain ⟨hx, hb, hr, hml, hown, hts, hX, hbl, hlocks, hgv⟩ := C0
  generalize hAe : (fun q : Nat => s.heap.size ≤ q) = A at hXX
  have hA : ∀ q : Nat, s.heap.size ≤ q → A q := fun q h => by rw [← hAe]; exact h
  have hAn : ∀ q : Nat, A q → s.heap.size ≤ q := fun q h => by rw [← hAe] at h; exact h
  have hbA : ¬ A b := fun h => absurd (hAn b h) (Nat.not_le.mpr hbl)
  obtain ⟨r0, hr0⟩ : ∃ r0 : Int32, r0 = 1 := ⟨1, rfl⟩
  rw [← hr0] at hf
  have hRC : 10000 ≤ room_1.cells := Nat.le_of_ble_eq_true rfl
  have hRS : 300000 ≤ room_1.slots := Nat.le_of_ble_eq_true rfl
  have hi5 := inX5
  have hS : va_S A s.heap s.heap [] := va_S.rf
  have hP : va_P (dC, dI) vwCl [] s.heap := fun k q h => by simp at h
  have hD : va_D A [] := ⟨fun i j p q h => by simp at h, fun k q h => by simp at h⟩
  have hl := lv_entry ([.ref b]) (n := 9) (Nat.le_of_ble_eq_true rfl)
  rw [lg_entry_eq]
  generalize (lg_sl ([.ref b]) ++ List.replicate (9 - (lg_sl ([.ref b])).length) Slot.unset).toArray = ls at hl ⊢
  have hl : lv_has ls 9 [(0, .ref b)] := hl
  suffices hgoal : ∀ (H : Heap) (locs : List Loc), va_P (dC, dI) vwCl [] H → va_S A s.heap H locs → W p l e room_1 s m #[Value.ref b] below meth c H locs 0 0 (lw_Z below #[Value.ref b] s) (F0 m 0 ls []) by
    exact hgoal s.heap [] hP hS
  clear hP hS
  intro H locs hP hS
  unfold f_L_law at hf
  refine va_new (ci := 5) (fs := [.null, .null, .null, .null, .null, .int 0, .int 0, .int 0, .int 0]) (C := RX5) (T := TX5) (N := 9) hx hb hts hi5 tyX5 tyX5_ok hown (hts (.classLink RL 9 RX5) (List.mem_of_getElem? (i := 69) (by decide +kernel))) (hts (.instantiable RX5 9) (List.mem_of_getElem? (i := 70) (by decide +kernel))) (hts (.initialized RX5) (List.mem_of_getElem? (i := 54) (by decide +kernel))) hK hP hD hS hA rfl (fun j hj => by rcases (show j = 0 ∨ j = 1 ∨ j = 2 ∨ j = 3 ∨ j = 4 ∨ j = 5 ∨ j = 6 ∨ j = 7 ∨ j = 8 by omega) with rfl | rfl | rfl | rfl | rfl | rfl | rfl | rfl | rfl <;> rfl) (by show 0 + 1 ≤ room_1.cells; omega) (by show 0 + 9 ≤ room_1.slots; omega) dL_law_0 (fun q_1 H hP hD hS => ?_)
  refine W.widen (k := 1) (n := 9) (by omega) (by omega) ?_
  have hP : va_P (dC, dI) vwCl ([(q_1, .inr (5, [.null, .null, .null, .null, .null, .int 0, .int 0, .int 0, .int 0]))]) H := hP
  have hD : va_D A ([(q_1, .inr (5, [.null, .null, .null, .null, .null, .int 0, .int 0, .int 0, .int 0]))]) := hD
  refine lv_dup hx hb dL_law_3 rfl ?_
  have hPc := hP.sub (ws' := [(q_1, .inr (5, [.null, .null, .null, .null, .null, .int 0, .int 0, .int 0, .int 0]))]) [0] rfl
  have hDc := hD.sub (ws' := [(q_1, .inr (5, [.null, .null, .null, .null, .null, .int 0, .int 0, .int 0, .int 0]))]) [0] (by decide) rfl
  have hFc := va_free (wc := [(q_1, .inr (5, [.null, .null, .null, .null, .null, .int 0, .int 0, .int 0, .int 0]))]) hD hS hA [0] rfl
  refine va_callv (va_runI (As := []) (rest := [.ref q_1]) ⟨hx, hb, hml, hown, hts⟩ (c_X5_init l dC dI cI cJ q_1 H.size) (cwI 0 hts gM_law_X5_init rfl rfl rfl (hts (.initialized RX5) (List.mem_of_getElem? (i := 54) (by decide +kernel))) (hts (.methodLink RL 11 yX5_init) (List.mem_of_getElem? (i := 71) (by decide +kernel))) (hts (.instanceMethod yX5_init) (List.mem_of_getElem? (i := 72) (by decide +kernel))) rfl (by decide +kernel) ⟨Nat.le_of_ble_eq_true rfl, Nat.le_of_ble_eq_true rfl⟩) ⟨q_Wblind, q_Wpre hPc (hK.sub (tys' := q_ty cI cJ) [0, 1] rfl) hn hDc⟩ rfl rfl hl.1 rfl (lv_room (Nat.le_of_ble_eq_true rfl)) dL_law_4 ⟨by show 1 + 17 ≤ room_1.cells; omega, by show 9 + 649 ≤ room_1.slots; omega⟩) hS (fun q _ h => hFc q h) hFc (fun u t H1 locs ht hvm hw hB hz1 hk1 hS => ?_)
  obtain ⟨a, rfl⟩ : ∃ z, z = u := ⟨_, rfl⟩
  subst hw
  obtain ⟨hP1, hK1, hD1⟩ := hB
  rw [ht] at hP1
  obtain ⟨hP, hD⟩ := va_join (wr := []) (w1 := (wSg a cI cJ q_F0 q_B0 q_K0 q_N0 q_I0 q_T0)) hP hD [0] [] rfl rfl (by decide) (by decide) hk1 hFc hP1 hD1
  generalize H1 = H at hP hS ⊢
  refine W.widen (k := 18) (n := 658) (by omega) (by omega) ?_
  have hP : va_P (dC, dI) vwCl (wSg a cI cJ q_F0 q_B0 q_K0 q_N0 q_I0 q_T0) H := hP
  have hD : va_D A (wSg a cI cJ q_F0 q_B0 q_K0 q_N0 q_I0 q_T0) := hD
  refine lv_astore_n (lv' := [(1, .ref (a 0)), (0, .ref b)]) hx hb dL_law_7 rfl hl (by decide) rfl (fun ls hl => ?_)
  refine lv_iconst (v := 4) hx hb dL_law_8 (by decide) ?_
  refine lv_aload_n hx hb dL_law_9 rfl (lv_at hl 1 rfl) ?_
  refine lv_iconst (v := 0) hx hb dL_law_10 (by decide) ?_
  obtain ⟨x_2, hx_2, hf⟩ := Option.bind_eq_some_iff.mp hf
  refine q_rX (As := [.ref b, .int 0]) (rest := [.int 4]) ⟨hx, hb, hml, hown, hts⟩ (c_L_cell l b L xs 0 x_2 hx_2) (va_cwS 2 hts gM_law_L_cell rfl rfl rfl (by decide +kernel) ⟨Nat.le_of_ble_eq_true rfl, Nat.le_of_ble_eq_true rfl⟩) (q_XS hX hbl hbA hS) rfl hl.1 rfl (Nat.le_of_ble_eq_true rfl) dL_law_11 ⟨by show 18 ≤ room_1.cells; omega, by show 658 ≤ room_1.slots; omega⟩ ?_
  refine lv_iconst (v := 3) hx hb dL_law_14 (by decide) ?_
  obtain ⟨x_3, hx_3, hf⟩ := Option.bind_eq_some_iff.mp hf
  refine q_rS (As := [.int x_2, .int 3]) (rest := [.int 4]) ⟨hx, hb, hml, hown, hts⟩ (c_L_below l dC dI cI cJ x_2 3 x_3 hx_3) (va_cwS 2 hts gM_law_L_below rfl rfl rfl (by decide +kernel) ⟨Nat.le_of_ble_eq_true rfl, Nat.le_of_ble_eq_true rfl⟩) (hK.sub (tys' := q_ty cI cJ) [0, 1] rfl) hn (hP.sub (ws' := []) [] rfl) rfl hl.1 rfl (Nat.le_of_ble_eq_true rfl) dL_law_15 ⟨by show 18 ≤ room_1.cells; omega, by show 658 ≤ room_1.slots; omega⟩ ?_
  refine lv_iadd hx hb dL_law_18 ?_
  refine lv_istore_n (lv' := [(2, .int (4 + x_3)), (1, .ref (a 0)), (0, .ref b)]) hx hb dL_law_19 rfl hl (by decide) rfl (fun ls hl => ?_)
  refine lv_aload_n hx hb dL_law_20 rfl (lv_at hl 1 rfl) ?_
  refine lv_iload_n hx hb dL_law_21 rfl (lv_at hl 0 rfl) ?_
  obtain ⟨x_4, hx_4, hf⟩ := Option.bind_eq_some_iff.mp hf
  have hFc := va_free (wc := (wSg a cI cJ q_F0 q_B0 q_K0 q_N0 q_I0 q_T0)) hD hS hA [0, 1, 2, 3, 4, 5, 6, 7, 8, 9, 10, 11, 12, 13, 14, 15, 16, 17] rfl
  refine va_calli (va_runV (As := [.int (4 + x_3)]) (rest := []) ⟨hx, hb, hml, hown, hts⟩ (c_X5_width l dC dI cI cJ a H.size q_F0 q_B0 q_K0 q_N0 q_I0 q_T0 (4 + x_3) x_4 hx_4) (cwV 1 hts gM_law_X5_width rfl rfl rfl (by decide +kernel) ⟨Nat.le_of_ble_eq_true rfl, Nat.le_of_ble_eq_true rfl⟩) ⟨q_Wblind, va_recv (hK.sub (tys' := q_ty cI cJ) [0, 1] rfl) hP (ci := 5) (q0 := 0) rfl rfl, q_Wpre hP (hK.sub (tys' := q_ty cI cJ) [0, 1] rfl) hn hD⟩ rfl rfl hl.1 rfl (lv_room (Nat.le_of_ble_eq_true rfl)) dL_law_22 ⟨by show 18 + 0 ≤ room_1.cells; omega, by show 658 + 0 ≤ room_1.slots; omega⟩) hS (fun q _ h => hFc q h) hFc (fun r_9 u t H1 locs ht hvm hw hB hz1 hk1 hS => ?_)
  subst hw
  obtain ⟨hP1, hK1, hD1⟩ := hB
  rw [ht] at hP1
  obtain ⟨hP, hD⟩ := va_join (wr := []) (w1 := (wSg a cI cJ x_4.2.1 x_4.2.2 q_K0 q_N0 q_I0 q_T0)) hP hD [0, 1, 2, 3, 4, 5, 6, 7, 8, 9, 10, 11, 12, 13, 14, 15, 16, 17] [] rfl rfl (by decide) (by decide) hk1 hFc hP1 hD1
  generalize H1 = H at hP hS ⊢
  have hP : va_P (dC, dI) vwCl (wSg a cI cJ x_4.2.1 x_4.2.2 q_K0 q_N0 q_I0 q_T0) H := hP
  have hD : va_D A (wSg a cI cJ x_4.2.1 x_4.2.2 q_K0 q_N0 q_I0 q_T0) := hD
  refine lv_pop hx hb dL_law_25 rfl ?_
  refine lv_iconst (v := 3) hx hb dL_law_26 (by decide) ?_
  by_cases nc_5 : ¬ q_ix 3 65 = true
  · replace hf := (if_neg nc_5).symm.trans hf
    cases hf
  have c_5 := Classical.not_not.mp nc_5
  replace hf := (if_pos c_5).symm.trans hf
  have kc_5 := q_ixlt c_5
  refine va_newa (atype := .int) (ty := .int) (a0 := ((3 : Int32).toNatClampNeg, .inl (fun _ => 0))) (N' := (3 : Int32).toNatClampNeg) hx hb (hts (.arrayClass .int) (List.mem_of_getElem? (i := 108) (by decide +kernel))) rfl hK hP hD hS hA (fun _ => rfl) kc_5.1 rfl (by show (3 : Int32).toNatClampNeg * 4 ≤ 536870912; omega) (by show 18 + 1 ≤ room_1.cells; omega) (by show 658 + (3 : Int32).toNatClampNeg ≤ room_1.slots; omega) dL_law_27 (fun q_6 cN H hK2 hP hD hS => ?_)
  obtain rfl := q_sameI3 hK2
  refine W.widen (k := 19) (n := 722) (by omega) (by omega) ?_
  have hP : va_P (dC, dI) vwCl (wSg a cI cJ x_4.2.1 x_4.2.2 q_K0 q_N0 q_I0 q_T0 ++ [(q_6, .inl (cI, ((3 : Int32).toNatClampNeg), .inl (fun _ => 0)))]) H := hP
  have hD : va_D A (wSg a cI cJ x_4.2.1 x_4.2.2 q_K0 q_N0 q_I0 q_T0 ++ [(q_6, .inl (cI, ((3 : Int32).toNatClampNeg), .inl (fun _ => 0)))]) := hD
  refine lv_astore_n (lv' := [(3, .ref q_6), (2, .int (4 + x_3)), (1, .ref (a 0)), (0, .ref b)]) hx hb dL_law_29 rfl hl (by decide) rfl (fun ls hl => ?_)
  refine lv_iconst (v := 0) hx hb dL_law_30 (by decide) ?_
  refine lv_istore (lv' := [(4, .int 0), (3, .ref q_6), (2, .int (4 + x_3)), (1, .ref (a 0)), (0, .ref b)]) hx hb dL_law_31 hl (by decide) rfl (fun ls hl => ?_)
  have L_33 : ∀ (nn : Nat) (i4_33 : Int32) (K_33 : q_Bk) (A_q_6_33 : q_IA) (H : Heap) (locs : List Loc) (ls : Array Slot) (z_33 : (Int32 × q_Bk × q_IA)), lv_has ls 9 [(4, .int i4_33), (3, .ref q_6), (2, .int (4 + x_3)), (1, .ref (a 0)), (0, .ref b)] → va_P (dC, dI) vwCl (wSg a cI cJ x_4.2.1 x_4.2.2 K_33 q_N0 q_I0 q_T0 ++ [(q_6, .inl (cI, ((3 : Int32).toNatClampNeg), .inl A_q_6_33))]) H → va_D A (wSg a cI cJ x_4.2.1 x_4.2.2 K_33 q_N0 q_I0 q_T0 ++ [(q_6, .inl (cI, ((3 : Int32).toNatClampNeg), .inl A_q_6_33))]) → va_S A s.heap H locs → fl_L_law_33 L xs nn i4_33 K_33 A_q_6_33 = some z_33 → (∀ (H : Heap) (locs : List Loc) (ls : Array Slot), lv_has ls 9 [(4, .int z_33.1), (3, .ref q_6), (2, .int (4 + x_3)), (1, .ref (a 0)), (0, .ref b)] → va_P (dC, dI) vwCl (wSg a cI cJ x_4.2.1 x_4.2.2 z_33.2.1 q_N0 q_I0 q_T0 ++ [(q_6, .inl (cI, ((3 : Int32).toNatClampNeg), .inl z_33.2.2))]) H → va_D A (wSg a cI cJ x_4.2.1 x_4.2.2 z_33.2.1 q_N0 q_I0 q_T0 ++ [(q_6, .inl (cI, ((3 : Int32).toNatClampNeg), .inl z_33.2.2))]) → va_S A s.heap H locs → W p l e room_1 s m #[Value.ref b] below meth c H locs 19 722 (lw_Z below #[Value.ref b] s) (F0 m 76 ls [])) → W p l e room_1 s m #[Value.ref b] below meth c H locs 19 722 (lw_Z below #[Value.ref b] s) (F0 m 33 ls []) := by
    intro nn
    induction nn with
    | zero =>
      intro i4_33 K_33 A_q_6_33 H locs ls z_33 hl hP hD hS hf hex_33
      rw [fl_L_law_33] at hf
      cases hf
    | succ nn ih =>
      intro i4_33 K_33 A_q_6_33 H locs ls z_33 hl hP hD hS hf hex_33
      rw [fl_L_law_33] at hf
      refine lv_iload hx hb dL_law_33 (lv_at hl 0 rfl) ?_
      refine lv_iconst (v := 3) hx hb dL_law_35 (by decide) ?_
      refine lv_icmp_ge (tgt := 76) hx hb dL_law_36 (by decide) (fun c_33001 => ?_) (fun c_33001 => ?_)
      · replace hf := (if_pos c_33001).symm.trans hf
        replace hf := Option.some.inj hf
        subst hf
        exact hex_33 H locs ls (lv_sub hl [0, 1, 2, 3, 4] rfl) hP hD hS
      · replace hf := (if_neg c_33001).symm.trans hf
        refine lv_aload_n hx hb dL_law_39 rfl (lv_at hl 1 rfl) ?_
        refine lv_iload hx hb dL_law_40 (lv_at hl 0 rfl) ?_
        refine lv_iconst (v := 1) hx hb dL_law_42 (by decide) ?_
        refine lv_aload_n hx hb dL_law_43 rfl (lv_at hl 4 rfl) ?_
        refine lv_iload hx hb dL_law_44 (lv_at hl 0 rfl) ?_
        refine lv_iconst (v := 1) hx hb dL_law_46 (by decide) ?_
        refine lv_iadd hx hb dL_law_47 ?_
        obtain ⟨x_33002, hx_33002, hf⟩ := Option.bind_eq_some_iff.mp hf
        refine q_rX (As := [.ref b, .int (i4_33 + 1)]) (rest := [.int 1, .int i4_33, .ref q_6]) ⟨hx, hb, hml, hown, hts⟩ (c_L_cell l b L xs (i4_33 + 1) x_33002 hx_33002) (va_cwS 2 hts gM_law_L_cell rfl rfl rfl (by decide +kernel) ⟨Nat.le_of_ble_eq_true rfl, Nat.le_of_ble_eq_true rfl⟩) (q_XS hX hbl hbA hS) rfl hl.1 rfl (Nat.le_of_ble_eq_true rfl) dL_law_48 ⟨by show 19 ≤ room_1.cells; omega, by show 722 ≤ room_1.slots; omega⟩ ?_
        refine lv_bipush (v := 31) hx hb dL_law_51 (by decide) ?_
        obtain ⟨x_33003, hx_33003, hf⟩ := Option.bind_eq_some_iff.mp hf
        refine q_rS (As := [.int x_33002, .int 31]) (rest := [.int 1, .int i4_33, .ref q_6]) ⟨hx, hb, hml, hown, hts⟩ (c_L_below l dC dI cI cJ x_33002 31 x_33003 hx_33003) (va_cwS 2 hts gM_law_L_below rfl rfl rfl (by decide +kernel) ⟨Nat.le_of_ble_eq_true rfl, Nat.le_of_ble_eq_true rfl⟩) (hK.sub (tys' := q_ty cI cJ) [0, 1] rfl) hn (hP.sub (ws' := []) [] rfl) rfl hl.1 rfl (Nat.le_of_ble_eq_true rfl) dL_law_53 ⟨by show 19 ≤ room_1.cells; omega, by show 722 ≤ room_1.slots; omega⟩ ?_
        refine lv_iadd hx hb dL_law_56 ?_
        by_cases nc_33004 : ¬ q_ix i4_33 (3 : Int32).toNatClampNeg = true
        · replace hf := (if_neg nc_33004).symm.trans hf
          cases hf
        have c_33004 := Classical.not_not.mp nc_33004
        replace hf := (if_pos c_33004).symm.trans hf
        refine va_iast hx hb hK hP hD hS 18 0 rfl rfl (q_ix_in c_33004) dL_law_57 (fun H locs hP hD hS => ?_)
        have hP : va_P (dC, dI) vwCl (wSg a cI cJ x_4.2.1 x_4.2.2 K_33 q_N0 q_I0 q_T0 ++ [(q_6, .inl (cI, ((3 : Int32).toNatClampNeg), .inl (upd A_q_6_33 i4_33.toNatClampNeg (1 + x_33003))))]) H := hP
        have hD : va_D A (wSg a cI cJ x_4.2.1 x_4.2.2 K_33 q_N0 q_I0 q_T0 ++ [(q_6, .inl (cI, ((3 : Int32).toNatClampNeg), .inl (upd A_q_6_33 i4_33.toNatClampNeg (1 + x_33003))))]) := hD
        refine lv_aload_n hx hb dL_law_58 rfl (lv_at hl 3 rfl) ?_
        refine lv_iconst (v := 1) hx hb dL_law_59 (by decide) ?_
        refine lv_aload_n hx hb dL_law_60 rfl (lv_at hl 1 rfl) ?_
        refine lv_iload hx hb dL_law_61 (lv_at hl 0 rfl) ?_
        refine va_iald hx hb hK hP 18 0 rfl rfl (q_ix_in c_33004) dL_law_63 ?_
        refine lv_iconst (v := 0) hx hb dL_law_64 (by decide) ?_
        refine lv_iconst (v := 0) hx hb dL_law_65 (by decide) ?_
        obtain ⟨x_33005, hx_33005, hf⟩ := Option.bind_eq_some_iff.mp hf
        have hPc := hP.sub (ws' := (wSg a cI cJ x_4.2.1 x_4.2.2 K_33 q_N0 q_I0 q_T0)) [0, 1, 2, 3, 4, 5, 6, 7, 8, 9, 10, 11, 12, 13, 14, 15, 16, 17] rfl
        have hDc := hD.sub (ws' := (wSg a cI cJ x_4.2.1 x_4.2.2 K_33 q_N0 q_I0 q_T0)) [0, 1, 2, 3, 4, 5, 6, 7, 8, 9, 10, 11, 12, 13, 14, 15, 16, 17] (by decide) rfl
        have hFc := va_free (wc := (wSg a cI cJ x_4.2.1 x_4.2.2 K_33 q_N0 q_I0 q_T0)) hD hS hA [0, 1, 2, 3, 4, 5, 6, 7, 8, 9, 10, 11, 12, 13, 14, 15, 16, 17] rfl
        refine va_calli (va_runV (As := [.int 1, .int ((upd A_q_6_33 i4_33.toNatClampNeg (1 + x_33003)) i4_33.toNatClampNeg), .int 0, .int 0]) (rest := []) ⟨hx, hb, hml, hown, hts⟩ (c_X5_letter l dC dI cI cJ a H.size x_4.2.1 x_4.2.2 K_33 q_N0 q_I0 q_T0 1 ((upd A_q_6_33 i4_33.toNatClampNeg (1 + x_33003)) i4_33.toNatClampNeg) 0 0 x_33005 hx_33005) (cwV 4 hts gM_law_X5_letter rfl rfl rfl (by decide +kernel) ⟨Nat.le_of_ble_eq_true rfl, Nat.le_of_ble_eq_true rfl⟩) ⟨q_Wblind, va_recv (hK.sub (tys' := q_ty cI cJ) [0, 1] rfl) hPc (ci := 5) (q0 := 0) rfl rfl, q_Wpre hPc (hK.sub (tys' := q_ty cI cJ) [0, 1] rfl) hn hDc⟩ rfl rfl hl.1 rfl (lv_room (Nat.le_of_ble_eq_true rfl)) dL_law_66 ⟨by show 19 + 0 ≤ room_1.cells; omega, by show 722 + 0 ≤ room_1.slots; omega⟩) hS (fun q _ h => hFc q h) hFc (fun r_9 u t H1 locs ht hvm hw hB hz1 hk1 hS => ?_)
        subst hw
        obtain ⟨hP1, hK1, hD1⟩ := hB
        rw [ht] at hP1
        obtain ⟨hP, hD⟩ := va_join (wr := ([(q_6, .inl (cI, ((3 : Int32).toNatClampNeg), .inl (upd A_q_6_33 i4_33.toNatClampNeg (1 + x_33003))))])) (w1 := (wSg a cI cJ x_4.2.1 x_4.2.2 x_33005.2 q_N0 q_I0 q_T0)) hP hD [0, 1, 2, 3, 4, 5, 6, 7, 8, 9, 10, 11, 12, 13, 14, 15, 16, 17] [18] rfl rfl (by decide) (by decide) hk1 hFc hP1 hD1
        generalize H1 = H at hP hS ⊢
        replace hP := hP.sub (ws' := (wSg a cI cJ x_4.2.1 x_4.2.2 x_33005.2 q_N0 q_I0 q_T0 ++ [(q_6, .inl (cI, ((3 : Int32).toNatClampNeg), .inl (upd A_q_6_33 i4_33.toNatClampNeg (1 + x_33003))))])) [1, 2, 3, 4, 5, 6, 7, 8, 9, 10, 11, 12, 13, 14, 15, 16, 17, 18, 0] rfl
        replace hD := hD.sub (ws' := (wSg a cI cJ x_4.2.1 x_4.2.2 x_33005.2 q_N0 q_I0 q_T0 ++ [(q_6, .inl (cI, ((3 : Int32).toNatClampNeg), .inl (upd A_q_6_33 i4_33.toNatClampNeg (1 + x_33003))))])) [1, 2, 3, 4, 5, 6, 7, 8, 9, 10, 11, 12, 13, 14, 15, 16, 17, 18, 0] (by decide) rfl
        have hP : va_P (dC, dI) vwCl (wSg a cI cJ x_4.2.1 x_4.2.2 x_33005.2 q_N0 q_I0 q_T0 ++ [(q_6, .inl (cI, ((3 : Int32).toNatClampNeg), .inl (upd A_q_6_33 i4_33.toNatClampNeg (1 + x_33003))))]) H := hP
        have hD : va_D A (wSg a cI cJ x_4.2.1 x_4.2.2 x_33005.2 q_N0 q_I0 q_T0 ++ [(q_6, .inl (cI, ((3 : Int32).toNatClampNeg), .inl (upd A_q_6_33 i4_33.toNatClampNeg (1 + x_33003))))]) := hD
        refine lv_pop hx hb dL_law_69 rfl ?_
        refine lv_iinc (v := i4_33 + 1) (lv' := [(4, .int (i4_33 + 1)), (3, .ref q_6), (2, .int (4 + x_3)), (1, .ref (a 0)), (0, .ref b)]) hx hb dL_law_70 hl (k := 0) rfl rfl (by decide) rfl (fun ls hl => ?_)
        refine lv_goto (tgt := 33) hx hb dL_law_73 (by decide) ?_
        exact ih (i4_33 + 1) x_33005.2 (upd A_q_6_33 i4_33.toNatClampNeg (1 + x_33003)) H locs ls _ (lv_sub hl [0, 1, 2, 3, 4] rfl) hP hD hS hf hex_33
  obtain ⟨z_7, hz_7, hf⟩ := Option.bind_eq_some_iff.mp hf
  refine L_33 1000 0 q_K0 (fun _ => 0) H locs ls z_7 (lv_sub hl [0, 1, 2, 3, 4] rfl) hP hD hS hz_7 (fun H locs ls hl hP hD hS => ?_)
  refine lv_iconst (v := 0) hx hb dL_law_76 (by decide) ?_
  refine lv_istore (lv' := [(4, .int 0), (3, .ref q_6), (2, .int (4 + x_3)), (1, .ref (a 0)), (0, .ref b)]) hx hb dL_law_77 hl (by decide) rfl (fun ls hl => ?_)
  have L_79 : ∀ (nn : Nat) (i4_79 : Int32) (K_79 : q_Bk) (kc_79 ks_79 : Nat) (H : Heap) (locs : List Loc) (ls : Array Slot) (z_79 : (Int32 × q_Bk)), lv_has ls 9 [(4, .int i4_79), (3, .ref q_6), (2, .int (4 + x_3)), (1, .ref (a 0)), (0, .ref b)] → kc_79 + nn * 1 ≤ 25 → ks_79 + nn * 6 ≤ 758 → va_P (dC, dI) vwCl (wSg a cI cJ x_4.2.1 x_4.2.2 K_79 q_N0 q_I0 q_T0 ++ [(q_6, .inl (cI, ((3 : Int32).toNatClampNeg), .inl z_7.2.2))]) H → va_D A (wSg a cI cJ x_4.2.1 x_4.2.2 K_79 q_N0 q_I0 q_T0 ++ [(q_6, .inl (cI, ((3 : Int32).toNatClampNeg), .inl z_7.2.2))]) → va_S A s.heap H locs → fl_L_law_79 L xs x_4 nn i4_79 K_79 = some z_79 → (∀ (H : Heap) (locs : List Loc) (ls : Array Slot), lv_has ls 9 [(4, .int z_79.1), (3, .ref q_6), (2, .int (4 + x_3)), (1, .ref (a 0)), (0, .ref b)] → va_P (dC, dI) vwCl (wSg a cI cJ x_4.2.1 x_4.2.2 z_79.2 q_N0 q_I0 q_T0 ++ [(q_6, .inl (cI, ((3 : Int32).toNatClampNeg), .inl z_7.2.2))]) H → va_D A (wSg a cI cJ x_4.2.1 x_4.2.2 z_79.2 q_N0 q_I0 q_T0 ++ [(q_6, .inl (cI, ((3 : Int32).toNatClampNeg), .inl z_7.2.2))]) → va_S A s.heap H locs → W p l e room_1 s m #[Value.ref b] below meth c H locs 25 758 (lw_Z below #[Value.ref b] s) (F0 m 103 ls [])) → W p l e room_1 s m #[Value.ref b] below meth c H locs kc_79 ks_79 (lw_Z below #[Value.ref b] s) (F0 m 79 ls []) := by
    intro nn
    induction nn with
    | zero =>
      intro i4_79 K_79 kc_79 ks_79 H locs ls z_79 hl hkc_79 hks_79 hP hD hS hf hex_79
      rw [fl_L_law_79] at hf
      cases hf
    | succ nn ih =>
      intro i4_79 K_79 kc_79 ks_79 H locs ls z_79 hl hkc_79 hks_79 hP hD hS hf hex_79
      rw [fl_L_law_79] at hf
      refine lv_iload hx hb dL_law_79 (lv_at hl 0 rfl) ?_
      refine lv_iconst (v := 5) hx hb dL_law_81 (by decide) ?_
      refine lv_icmp_ge (tgt := 103) hx hb dL_law_82 (by decide) (fun c_79001 => ?_) (fun c_79001 => ?_)
      · replace hf := (if_pos c_79001).symm.trans hf
        replace hf := Option.some.inj hf
        subst hf
        refine W.widen (k := 25) (n := 758) (by omega) (by omega) ?_
        exact hex_79 H locs ls (lv_sub hl [0, 1, 2, 3, 4] rfl) hP hD hS
      · replace hf := (if_neg c_79001).symm.trans hf
        refine lv_aload_n hx hb dL_law_85 rfl (lv_at hl 3 rfl) ?_
        refine lv_aload_n hx hb dL_law_86 rfl (lv_at hl 4 rfl) ?_
        refine lv_iload hx hb dL_law_87 (lv_at hl 0 rfl) ?_
        refine lv_iconst (v := 3) hx hb dL_law_89 (by decide) ?_
        refine lv_iadd hx hb dL_law_90 ?_
        obtain ⟨x_79002, hx_79002, hf⟩ := Option.bind_eq_some_iff.mp hf
        refine q_rX (As := [.ref b, .int (i4_79 + 3)]) (rest := [.ref (a 0)]) ⟨hx, hb, hml, hown, hts⟩ (c_L_cell l b L xs (i4_79 + 3) x_79002 hx_79002) (va_cwS 2 hts gM_law_L_cell rfl rfl rfl (by decide +kernel) ⟨Nat.le_of_ble_eq_true rfl, Nat.le_of_ble_eq_true rfl⟩) (q_XS hX hbl hbA hS) rfl hl.1 rfl (Nat.le_of_ble_eq_true rfl) dL_law_91 ⟨by show kc_79 ≤ room_1.cells; omega, by show ks_79 ≤ room_1.slots; omega⟩ ?_
        obtain ⟨x_79003, hx_79003, hf⟩ := Option.bind_eq_some_iff.mp hf
        have hPc := hP.sub (ws' := (wSg a cI cJ x_4.2.1 x_4.2.2 K_79 q_N0 q_I0 q_T0)) [0, 1, 2, 3, 4, 5, 6, 7, 8, 9, 10, 11, 12, 13, 14, 15, 16, 17] rfl
        have hDc := hD.sub (ws' := (wSg a cI cJ x_4.2.1 x_4.2.2 K_79 q_N0 q_I0 q_T0)) [0, 1, 2, 3, 4, 5, 6, 7, 8, 9, 10, 11, 12, 13, 14, 15, 16, 17] (by decide) rfl
        have hFc := va_free (wc := (wSg a cI cJ x_4.2.1 x_4.2.2 K_79 q_N0 q_I0 q_T0)) hD hS hA [0, 1, 2, 3, 4, 5, 6, 7, 8, 9, 10, 11, 12, 13, 14, 15, 16, 17] rfl
        refine va_callv (vx_runSW (As := [.ref (a 0), .int x_79002]) (rest := []) ⟨hx, hb, hml, hown, hts⟩ (c_L_list l hfl dC dI cI cJ a H.size x_4.2.1 x_4.2.2 K_79 q_N0 q_I0 q_T0 x_79002 x_79003 hx_79003) (vx_cwSW 2 hts gM_law_L_list rfl rfl rfl (by decide +kernel) ⟨Nat.le_of_ble_eq_true rfl, Nat.le_of_ble_eq_true rfl⟩) ⟨q_WXblind, q_WXpre hPc (hK.sub (tys' := q_ty cI cJ) [0, 1] rfl) hn hDc hXX hS hFc⟩ rfl rfl hl.1 rfl (lv_room (Nat.le_of_ble_eq_true rfl)) dL_law_94 ⟨by show kc_79 + 1 ≤ room_1.cells; omega, by show ks_79 + 6 ≤ room_1.slots; omega⟩) hS (fun q _ h => hFc q h) hFc (fun u t H1 locs ht hvm hw hB hz1 hk1 hS => ?_)
        obtain ⟨hP1, hK1, hD1⟩ := hB
        rw [ht] at hP1
        obtain ⟨hP, hD⟩ := va_join (wr := ([(q_6, .inl (cI, ((3 : Int32).toNatClampNeg), .inl z_7.2.2))])) (w1 := (wSg a cI cJ x_4.2.1 x_4.2.2 x_79003 q_N0 q_I0 q_T0)) hP hD [0, 1, 2, 3, 4, 5, 6, 7, 8, 9, 10, 11, 12, 13, 14, 15, 16, 17] [18] rfl rfl (by decide) (by decide) hk1 hFc hP1 hD1
        generalize H1 = H at hP hS ⊢
        replace hP := hP.sub (ws' := (wSg a cI cJ x_4.2.1 x_4.2.2 x_79003 q_N0 q_I0 q_T0 ++ [(q_6, .inl (cI, ((3 : Int32).toNatClampNeg), .inl z_7.2.2))])) [1, 2, 3, 4, 5, 6, 7, 8, 9, 10, 11, 12, 13, 14, 15, 16, 17, 18, 0] rfl
        replace hD := hD.sub (ws' := (wSg a cI cJ x_4.2.1 x_4.2.2 x_79003 q_N0 q_I0 q_T0 ++ [(q_6, .inl (cI, ((3 : Int32).toNatClampNeg), .inl z_7.2.2))])) [1, 2, 3, 4, 5, 6, 7, 8, 9, 10, 11, 12, 13, 14, 15, 16, 17, 18, 0] (by decide) rfl
        have hP : va_P (dC, dI) vwCl (wSg a cI cJ x_4.2.1 x_4.2.2 x_79003 q_N0 q_I0 q_T0 ++ [(q_6, .inl (cI, ((3 : Int32).toNatClampNeg), .inl z_7.2.2))]) H := hP
        have hD : va_D A (wSg a cI cJ x_4.2.1 x_4.2.2 x_79003 q_N0 q_I0 q_T0 ++ [(q_6, .inl (cI, ((3 : Int32).toNatClampNeg), .inl z_7.2.2))]) := hD
        refine W.widen (k := kc_79 + 1) (n := ks_79 + 6) (by omega) (by omega) ?_
        refine lv_iinc (v := i4_79 + 1) (lv' := [(4, .int (i4_79 + 1)), (3, .ref q_6), (2, .int (4 + x_3)), (1, .ref (a 0)), (0, .ref b)]) hx hb dL_law_97 hl (k := 0) rfl rfl (by decide) rfl (fun ls hl => ?_)
        refine lv_goto (tgt := 79) hx hb dL_law_100 (by decide) ?_
        exact ih (i4_79 + 1) x_79003 (kc_79 + 1) (ks_79 + 6) H locs ls _ (lv_sub hl [0, 1, 2, 3, 4] rfl) (by omega) (by omega) hP hD hS hf hex_79
  obtain ⟨z_8, hz_8, hf⟩ := Option.bind_eq_some_iff.mp hf
  refine L_79 6 0 z_7.2.1 19 722 H locs ls z_8 (lv_sub hl [0, 1, 2, 3, 4] rfl) (by omega) (by omega) hP hD hS hz_8 (fun H locs ls hl hP hD hS => ?_)
  refine lv_iconst (v := 0) hx hb dL_law_103 (by decide) ?_
  refine lv_istore (lv' := [(4, .int 0), (3, .ref q_6), (2, .int (4 + x_3)), (1, .ref (a 0)), (0, .ref b)]) hx hb dL_law_104 hl (by decide) rfl (fun ls hl => ?_)
  have L_106 : ∀ (nn : Nat) (i4_106 : Int32) (F_106 : q_Fl) (B_106 : q_Bd) (K_106 : q_Bk) (N_106 : q_Pl) (kc_106 ks_106 : Nat) (H : Heap) (locs : List Loc) (ls : Array Slot) (z_106 : ((Int32) ⊕ (Int32 × q_Fl × q_Bd × q_Bk × q_Pl))), lv_has ls 9 [(4, .int i4_106), (3, .ref q_6), (2, .int (4 + x_3)), (1, .ref (a 0)), (0, .ref b)] → kc_106 + nn * 193 ≤ 5236 → ks_106 + nn * 7412 ≤ 200882 → va_P (dC, dI) vwCl (wSg a cI cJ F_106 B_106 K_106 N_106 q_I0 q_T0 ++ [(q_6, .inl (cI, ((3 : Int32).toNatClampNeg), .inl z_7.2.2))]) H → va_D A (wSg a cI cJ F_106 B_106 K_106 N_106 q_I0 q_T0 ++ [(q_6, .inl (cI, ((3 : Int32).toNatClampNeg), .inl z_7.2.2))]) → va_S A s.heap H locs → fl_L_law_106 L xs x_3 z_7 nn i4_106 F_106 B_106 K_106 N_106 = some z_106 → (∀ r_ : Int32, z_106 = .inl r_ → r_ = r0) → (∀ (y : Int32 × q_Fl × q_Bd × q_Bk × q_Pl) (H : Heap) (locs : List Loc) (ls : Array Slot), z_106 = .inr y → lv_has ls 9 [(4, .int y.1), (3, .ref q_6), (2, .int (4 + x_3)), (1, .ref (a 0)), (0, .ref b)] → va_P (dC, dI) vwCl (wSg a cI cJ y.2.1 y.2.2.1 y.2.2.2.1 y.2.2.2.2 q_I0 q_T0 ++ [(q_6, .inl (cI, ((3 : Int32).toNatClampNeg), .inl z_7.2.2))]) H → va_D A (wSg a cI cJ y.2.1 y.2.2.1 y.2.2.2.1 y.2.2.2.2 q_I0 q_T0 ++ [(q_6, .inl (cI, ((3 : Int32).toNatClampNeg), .inl z_7.2.2))]) → va_S A s.heap H locs → W p l e room_1 s m #[Value.ref b] below meth c H locs 5236 200882 (lw_Z below #[Value.ref b] s) (F0 m 327 ls [])) → W p l e room_1 s m #[Value.ref b] below meth c H locs kc_106 ks_106 (lw_Z below #[Value.ref b] s) (F0 m 106 ls []) := by
    intro nn
    induction nn with
    | zero =>
      intro i4_106 F_106 B_106 K_106 N_106 kc_106 ks_106 H locs ls z_106 hl hkc_106 hks_106 hP hD hS hf hret_106 hex_106
      rw [fl_L_law_106] at hf
      cases hf
    | succ nn ih =>
      intro i4_106 F_106 B_106 K_106 N_106 kc_106 ks_106 H locs ls z_106 hl hkc_106 hks_106 hP hD hS hf hret_106 hex_106
      rw [fl_L_law_106] at hf
      refine lv_iload hx hb dL_law_106 (lv_at hl 0 rfl) ?_
      refine lv_bipush (v := 26) hx hb dL_law_108 (by decide) ?_
      refine lv_icmp_ge (tgt := 327) hx hb dL_law_110 (by decide) (fun c_106001 => ?_) (fun c_106001 => ?_)
      · replace hf := (if_pos c_106001).symm.trans hf
        refine W.widen (k := 5236) (n := 200882) (by omega) (by omega) ?_
        exact hex_106 (i4_106, F_106, B_106, K_106, N_106) H locs ls (Option.some.inj hf).symm (lv_sub hl [0, 1, 2, 3, 4] rfl) hP hD hS
      · replace hf := (if_neg c_106001).symm.trans hf
        refine lv_aload_n hx hb dL_law_113 rfl (lv_at hl 4 rfl) ?_
        refine lv_iload hx hb dL_law_114 (lv_at hl 0 rfl) ?_
        refine lv_bipush (v := 16) hx hb dL_law_116 (by decide) ?_
        refine lv_irem hx hb dL_law_118 (by decide) ?_
        obtain ⟨x_106002, hx_106002, hf⟩ := Option.bind_eq_some_iff.mp hf
        refine q_rX (As := [.ref b, .int (i4_106 - i4_106 / 16 * 16)]) (rest := []) ⟨hx, hb, hml, hown, hts⟩ (c_L_cell l b L xs (i4_106 - i4_106 / 16 * 16) x_106002 hx_106002) (va_cwS 2 hts gM_law_L_cell rfl rfl rfl (by decide +kernel) ⟨Nat.le_of_ble_eq_true rfl, Nat.le_of_ble_eq_true rfl⟩) (q_XS hX hbl hbA hS) rfl hl.1 rfl (Nat.le_of_ble_eq_true rfl) dL_law_119 ⟨by show kc_106 ≤ room_1.cells; omega, by show ks_106 ≤ room_1.slots; omega⟩ ?_
        refine lv_bipush (v := 31) hx hb dL_law_122 (by decide) ?_
        refine lv_iload hx hb dL_law_124 (lv_at hl 0 rfl) ?_
        refine lv_imul hx hb dL_law_126 ?_
        refine lv_iadd hx hb dL_law_127 ?_
        refine lv_istore (lv' := [(5, .int (x_106002 + (31 * i4_106))), (4, .int i4_106), (3, .ref q_6), (2, .int (4 + x_3)), (1, .ref (a 0)), (0, .ref b)]) hx hb dL_law_128 hl (by decide) rfl (fun ls hl => ?_)
        refine lv_aload_n hx hb dL_law_130 rfl (lv_at hl 5 rfl) ?_
        refine lv_bipush (v := 7) hx hb dL_law_131 (by decide) ?_
        refine lv_iload hx hb dL_law_133 (lv_at hl 1 rfl) ?_
        refine lv_imul hx hb dL_law_135 ?_
        refine lv_iconst (v := 3) hx hb dL_law_136 (by decide) ?_
        refine lv_iadd hx hb dL_law_137 ?_
        refine lv_bipush (v := 16) hx hb dL_law_138 (by decide) ?_
        refine lv_irem hx hb dL_law_140 (by decide) ?_
        obtain ⟨x_106003, hx_106003, hf⟩ := Option.bind_eq_some_iff.mp hf
        refine q_rX (As := [.ref b, .int (((7 * i4_106) + 3) - ((7 * i4_106) + 3) / 16 * 16)]) (rest := []) ⟨hx, hb, hml, hown, hts⟩ (c_L_cell l b L xs (((7 * i4_106) + 3) - ((7 * i4_106) + 3) / 16 * 16) x_106003 hx_106003) (va_cwS 2 hts gM_law_L_cell rfl rfl rfl (by decide +kernel) ⟨Nat.le_of_ble_eq_true rfl, Nat.le_of_ble_eq_true rfl⟩) (q_XS hX hbl hbA hS) rfl hl.1 rfl (Nat.le_of_ble_eq_true rfl) dL_law_141 ⟨by show kc_106 ≤ room_1.cells; omega, by show ks_106 ≤ room_1.slots; omega⟩ ?_
        refine lv_iconst (v := 5) hx hb dL_law_144 (by decide) ?_
        refine lv_iload hx hb dL_law_145 (lv_at hl 1 rfl) ?_
        refine lv_imul hx hb dL_law_147 ?_
        refine lv_iadd hx hb dL_law_148 ?_
        refine lv_istore (lv' := [(6, .int (x_106003 + (5 * i4_106))), (5, .int (x_106002 + (31 * i4_106))), (4, .int i4_106), (3, .ref q_6), (2, .int (4 + x_3)), (1, .ref (a 0)), (0, .ref b)]) hx hb dL_law_149 hl (by decide) rfl (fun ls hl => ?_)
        refine lv_aload_n hx hb dL_law_151 rfl (lv_at hl 5 rfl) ?_
        refine lv_iconst (v := 4) hx hb dL_law_152 (by decide) ?_
        obtain ⟨x_106004, hx_106004, hf⟩ := Option.bind_eq_some_iff.mp hf
        refine q_rV (As := [.int 4]) (rest := []) ⟨hx, hb, hml, hown, hts⟩ (c_X5_sign l dC dI cI cJ a F_106 B_106 K_106 N_106 q_I0 q_T0 4 x_106004 hx_106004) (cwV 1 hts gM_law_X5_sign rfl rfl rfl (by decide +kernel) ⟨Nat.le_of_ble_eq_true rfl, Nat.le_of_ble_eq_true rfl⟩) (hK.sub (tys' := q_ty cI cJ) [0, 1] rfl) hn (hP.sub (ws' := (wSg a cI cJ F_106 B_106 K_106 N_106 q_I0 q_T0)) [0, 1, 2, 3, 4, 5, 6, 7, 8, 9, 10, 11, 12, 13, 14, 15, 16, 17] rfl) (ci := 5) rfl rfl rfl hl.1 rfl (Nat.le_of_ble_eq_true rfl) dL_law_153 ⟨by show kc_106 ≤ room_1.cells; omega, by show ks_106 ≤ room_1.slots; omega⟩ ?_
        refine lv_istore (lv' := [(7, .int x_106004), (6, .int (x_106003 + (5 * i4_106))), (5, .int (x_106002 + (31 * i4_106))), (4, .int i4_106), (3, .ref q_6), (2, .int (4 + x_3)), (1, .ref (a 0)), (0, .ref b)]) hx hb dL_law_156 hl (by decide) rfl (fun ls hl => ?_)
        refine lv_iload hx hb dL_law_158 (lv_at hl 1 rfl) ?_
        refine lv_iload hx hb dL_law_160 (lv_at hl 0 rfl) ?_
        obtain ⟨x_106005, hx_106005, hf⟩ := Option.bind_eq_some_iff.mp hf
        refine q_rS (As := [.int (x_106003 + (5 * i4_106)), .int x_106004]) (rest := []) ⟨hx, hb, hml, hown, hts⟩ (c_L_below l dC dI cI cJ (x_106003 + (5 * i4_106)) x_106004 x_106005 hx_106005) (va_cwS 2 hts gM_law_L_below rfl rfl rfl (by decide +kernel) ⟨Nat.le_of_ble_eq_true rfl, Nat.le_of_ble_eq_true rfl⟩) (hK.sub (tys' := q_ty cI cJ) [0, 1] rfl) hn (hP.sub (ws' := []) [] rfl) rfl hl.1 rfl (Nat.le_of_ble_eq_true rfl) dL_law_162 ⟨by show kc_106 ≤ room_1.cells; omega, by show ks_106 ≤ room_1.slots; omega⟩ ?_
        refine lv_istore (lv' := [(8, .int x_106005), (7, .int x_106004), (6, .int (x_106003 + (5 * i4_106))), (5, .int (x_106002 + (31 * i4_106))), (4, .int i4_106), (3, .ref q_6), (2, .int (4 + x_3)), (1, .ref (a 0)), (0, .ref b)]) hx hb dL_law_165 hl (by decide) rfl (fun ls hl => ?_)
        refine lv_iload hx hb dL_law_167 (lv_at hl 3 rfl) ?_
        refine lv_bipush (v := 9) hx hb dL_law_169 (by decide) ?_
        obtain ⟨x_106006, hx_106006, hf⟩ := Option.bind_eq_some_iff.mp hf
        refine q_rS (As := [.int (x_106002 + (31 * i4_106)), .int 9]) (rest := []) ⟨hx, hb, hml, hown, hts⟩ (c_L_below l dC dI cI cJ (x_106002 + (31 * i4_106)) 9 x_106006 hx_106006) (va_cwS 2 hts gM_law_L_below rfl rfl rfl (by decide +kernel) ⟨Nat.le_of_ble_eq_true rfl, Nat.le_of_ble_eq_true rfl⟩) (hK.sub (tys' := q_ty cI cJ) [0, 1] rfl) hn (hP.sub (ws' := []) [] rfl) rfl hl.1 rfl (Nat.le_of_ble_eq_true rfl) dL_law_171 ⟨by show kc_106 ≤ room_1.cells; omega, by show ks_106 ≤ room_1.slots; omega⟩ ?_
        by_cases c_106007 : x_106006 = 0
        · replace hf := (if_pos c_106007).symm.trans hf
          refine lv_tableIn (x := x_106006) (off := 30) (tgt := 204) hx hb dL_law_174 (by rw [c_106007]; decide) (by rw [c_106007]; decide) (by rw [c_106007]; rfl) (by decide) ?_
          refine lv_aload_n hx hb dL_law_204 rfl (lv_at hl 7 rfl) ?_
          refine lv_iconst (v := 1) hx hb dL_law_205 (by decide) ?_
          refine lv_iload hx hb dL_law_206 (lv_at hl 3 rfl) ?_
          refine lv_bipush (v := 9) hx hb dL_law_208 (by decide) ?_
          refine lv_idiv hx hb dL_law_210 (by decide) ?_
          refine lv_bipush (v := 12) hx hb dL_law_211 (by decide) ?_
          obtain ⟨x_106008, hx_106008, hf⟩ := Option.bind_eq_some_iff.mp hf
          refine q_rS (As := [.int ((x_106002 + (31 * i4_106)) / 9), .int 12]) (rest := [.int 1, .ref (a 0)]) ⟨hx, hb, hml, hown, hts⟩ (c_L_below l dC dI cI cJ ((x_106002 + (31 * i4_106)) / 9) 12 x_106008 hx_106008) (va_cwS 2 hts gM_law_L_below rfl rfl rfl (by decide +kernel) ⟨Nat.le_of_ble_eq_true rfl, Nat.le_of_ble_eq_true rfl⟩) (hK.sub (tys' := q_ty cI cJ) [0, 1] rfl) hn (hP.sub (ws' := []) [] rfl) rfl hl.1 rfl (Nat.le_of_ble_eq_true rfl) dL_law_213 ⟨by show kc_106 ≤ room_1.cells; omega, by show ks_106 ≤ room_1.slots; omega⟩ ?_
          refine lv_iadd hx hb dL_law_216 ?_
          refine lv_iload hx hb dL_law_217 (lv_at hl 2 rfl) ?_
          refine lv_bipush (v := 11) hx hb dL_law_219 (by decide) ?_
          obtain ⟨x_106009, hx_106009, hf⟩ := Option.bind_eq_some_iff.mp hf
          refine q_rS (As := [.int (x_106003 + (5 * i4_106)), .int 11]) (rest := [.int (1 + x_106008), .ref (a 0)]) ⟨hx, hb, hml, hown, hts⟩ (c_L_below l dC dI cI cJ (x_106003 + (5 * i4_106)) 11 x_106009 hx_106009) (va_cwS 2 hts gM_law_L_below rfl rfl rfl (by decide +kernel) ⟨Nat.le_of_ble_eq_true rfl, Nat.le_of_ble_eq_true rfl⟩) (hK.sub (tys' := q_ty cI cJ) [0, 1] rfl) hn (hP.sub (ws' := []) [] rfl) rfl hl.1 rfl (Nat.le_of_ble_eq_true rfl) dL_law_221 ⟨by show kc_106 ≤ room_1.cells; omega, by show ks_106 ≤ room_1.slots; omega⟩ ?_
          obtain ⟨x_106010, hx_106010, hf⟩ := Option.bind_eq_some_iff.mp hf
          have hPc := hP.sub (ws' := (wSg a cI cJ F_106 B_106 K_106 N_106 q_I0 q_T0)) [0, 1, 2, 3, 4, 5, 6, 7, 8, 9, 10, 11, 12, 13, 14, 15, 16, 17] rfl
          have hDc := hD.sub (ws' := (wSg a cI cJ F_106 B_106 K_106 N_106 q_I0 q_T0)) [0, 1, 2, 3, 4, 5, 6, 7, 8, 9, 10, 11, 12, 13, 14, 15, 16, 17] (by decide) rfl
          have hFc := va_free (wc := (wSg a cI cJ F_106 B_106 K_106 N_106 q_I0 q_T0)) hD hS hA [0, 1, 2, 3, 4, 5, 6, 7, 8, 9, 10, 11, 12, 13, 14, 15, 16, 17] rfl
          refine va_calli (va_runV (As := [.int (1 + x_106008), .int x_106009]) (rest := []) ⟨hx, hb, hml, hown, hts⟩ (c_X5_power l dC dI cI cJ a H.size F_106 B_106 K_106 N_106 q_I0 q_T0 (1 + x_106008) x_106009 x_106010 hx_106010) (cwV 2 hts gM_law_X5_power rfl rfl rfl (by decide +kernel) ⟨Nat.le_of_ble_eq_true rfl, Nat.le_of_ble_eq_true rfl⟩) ⟨q_Wblind, va_recv (hK.sub (tys' := q_ty cI cJ) [0, 1] rfl) hPc (ci := 5) (q0 := 0) rfl rfl, q_Wpre hPc (hK.sub (tys' := q_ty cI cJ) [0, 1] rfl) hn hDc⟩ rfl rfl hl.1 rfl (lv_room (Nat.le_of_ble_eq_true rfl)) dL_law_224 ⟨by show kc_106 + 0 ≤ room_1.cells; omega, by show ks_106 + 0 ≤ room_1.slots; omega⟩) hS (fun q _ h => hFc q h) hFc (fun r_9 u t H1 locs ht hvm hw hB hz1 hk1 hS => ?_)
          subst hw
          obtain ⟨hP1, hK1, hD1⟩ := hB
          rw [ht] at hP1
          obtain ⟨hP, hD⟩ := va_join (wr := ([(q_6, .inl (cI, ((3 : Int32).toNatClampNeg), .inl z_7.2.2))])) (w1 := (wSg a cI cJ x_106010.2 B_106 K_106 N_106 q_I0 q_T0)) hP hD [0, 1, 2, 3, 4, 5, 6, 7, 8, 9, 10, 11, 12, 13, 14, 15, 16, 17] [18] rfl rfl (by decide) (by decide) hk1 hFc hP1 hD1
          generalize H1 = H at hP hS ⊢
          replace hP := hP.sub (ws' := (wSg a cI cJ x_106010.2 B_106 K_106 N_106 q_I0 q_T0 ++ [(q_6, .inl (cI, ((3 : Int32).toNatClampNeg), .inl z_7.2.2))])) [1, 2, 3, 4, 5, 6, 7, 8, 9, 10, 11, 12, 13, 14, 15, 16, 17, 18, 0] rfl
          replace hD := hD.sub (ws' := (wSg a cI cJ x_106010.2 B_106 K_106 N_106 q_I0 q_T0 ++ [(q_6, .inl (cI, ((3 : Int32).toNatClampNeg), .inl z_7.2.2))])) [1, 2, 3, 4, 5, 6, 7, 8, 9, 10, 11, 12, 13, 14, 15, 16, 17, 18, 0] (by decide) rfl
          have hP : va_P (dC, dI) vwCl (wSg a cI cJ x_106010.2 B_106 K_106 N_106 q_I0 q_T0 ++ [(q_6, .inl (cI, ((3 : Int32).toNatClampNeg), .inl z_7.2.2))]) H := hP
          have hD : va_D A (wSg a cI cJ x_106010.2 B_106 K_106 N_106 q_I0 q_T0 ++ [(q_6, .inl (cI, ((3 : Int32).toNatClampNeg), .inl z_7.2.2))]) := hD
          refine lv_pop hx hb dL_law_227 rfl ?_
          refine lv_goto (tgt := 311) hx hb dL_law_228 (by decide) ?_
          refine lv_aload_n hx hb dL_law_311 rfl (lv_at hl 7 rfl) ?_
          refine lv_iload_n hx hb dL_law_312 rfl (lv_at hl 6 rfl) ?_
          obtain ⟨x_106011, hx_106011, hf⟩ := Option.bind_eq_some_iff.mp hf
          have hPc := hP.sub (ws' := (wSg a cI cJ x_106010.2 B_106 K_106 N_106 q_I0 q_T0)) [0, 1, 2, 3, 4, 5, 6, 7, 8, 9, 10, 11, 12, 13, 14, 15, 16, 17] rfl
          have hDc := hD.sub (ws' := (wSg a cI cJ x_106010.2 B_106 K_106 N_106 q_I0 q_T0)) [0, 1, 2, 3, 4, 5, 6, 7, 8, 9, 10, 11, 12, 13, 14, 15, 16, 17] (by decide) rfl
          have hFc := va_free (wc := (wSg a cI cJ x_106010.2 B_106 K_106 N_106 q_I0 q_T0)) hD hS hA [0, 1, 2, 3, 4, 5, 6, 7, 8, 9, 10, 11, 12, 13, 14, 15, 16, 17] rfl
          refine va_calli (va_runS (As := [.ref (a 0), .int (4 + x_3)]) (rest := []) ⟨hx, hb, hml, hown, hts⟩ (c_L_isWell l dC dI cI cJ a H.size x_106010.2 B_106 K_106 N_106 q_I0 q_T0 (4 + x_3) x_106011 hx_106011) (va_cwS 2 hts gM_law_L_isWell rfl rfl rfl (by decide +kernel) ⟨Nat.le_of_ble_eq_true rfl, Nat.le_of_ble_eq_true rfl⟩) ⟨q_Wblind, q_Wpre hPc (hK.sub (tys' := q_ty cI cJ) [0, 1] rfl) hn hDc⟩ rfl rfl hl.1 rfl (lv_room (Nat.le_of_ble_eq_true rfl)) dL_law_313 ⟨by show kc_106 + 0 ≤ room_1.cells; omega, by show ks_106 + 0 ≤ room_1.slots; omega⟩) hS (fun q _ h => hFc q h) hFc (fun r_9 u t H1 locs ht hvm hw hB hz1 hk1 hS => ?_)
          subst hw
          obtain ⟨hP1, hK1, hD1⟩ := hB
          rw [ht] at hP1
          obtain ⟨hP, hD⟩ := va_join (wr := ([(q_6, .inl (cI, ((3 : Int32).toNatClampNeg), .inl z_7.2.2))])) (w1 := (wSg a cI cJ x_106010.2 B_106 K_106 x_106011.2 q_I0 q_T0)) hP hD [0, 1, 2, 3, 4, 5, 6, 7, 8, 9, 10, 11, 12, 13, 14, 15, 16, 17] [18] rfl rfl (by decide) (by decide) hk1 hFc hP1 hD1
          generalize H1 = H at hP hS ⊢
          replace hP := hP.sub (ws' := (wSg a cI cJ x_106010.2 B_106 K_106 x_106011.2 q_I0 q_T0 ++ [(q_6, .inl (cI, ((3 : Int32).toNatClampNeg), .inl z_7.2.2))])) [1, 2, 3, 4, 5, 6, 7, 8, 9, 10, 11, 12, 13, 14, 15, 16, 17, 18, 0] rfl
          replace hD := hD.sub (ws' := (wSg a cI cJ x_106010.2 B_106 K_106 x_106011.2 q_I0 q_T0 ++ [(q_6, .inl (cI, ((3 : Int32).toNatClampNeg), .inl z_7.2.2))])) [1, 2, 3, 4, 5, 6, 7, 8, 9, 10, 11, 12, 13, 14, 15, 16, 17, 18, 0] (by decide) rfl
          have hP : va_P (dC, dI) vwCl (wSg a cI cJ x_106010.2 B_106 K_106 x_106011.2 q_I0 q_T0 ++ [(q_6, .inl (cI, ((3 : Int32).toNatClampNeg), .inl z_7.2.2))]) H := hP
          have hD : va_D A (wSg a cI cJ x_106010.2 B_106 K_106 x_106011.2 q_I0 q_T0 ++ [(q_6, .inl (cI, ((3 : Int32).toNatClampNeg), .inl z_7.2.2))]) := hD
          refine lv_if_ne (tgt := 321) hx hb dL_law_316 (by decide) (fun c_106012 => ?_) (fun c_106012 => ?_)
          · replace hf := (if_neg c_106012).symm.trans hf
            refine lv_iinc (v := i4_106 + 1) (lv' := [(4, .int (i4_106 + 1)), (8, .int x_106005), (7, .int x_106004), (6, .int (x_106003 + (5 * i4_106))), (5, .int (x_106002 + (31 * i4_106))), (3, .ref q_6), (2, .int (4 + x_3)), (1, .ref (a 0)), (0, .ref b)]) hx hb dL_law_321 hl (k := 4) rfl rfl (by decide) rfl (fun ls hl => ?_)
            refine lv_goto (tgt := 106) hx hb dL_law_324 (by decide) ?_
            exact ih (i4_106 + 1) x_106010.2 B_106 K_106 x_106011.2 kc_106 ks_106 H locs ls _ (lv_sub hl [0, 5, 6, 7, 8] rfl) (by omega) (by omega) hP hD hS hf hret_106 hex_106
          · replace hf := (if_pos c_106012).symm.trans hf
            refine lv_iconst (v := 0) hx hb dL_law_319 (by decide) ?_
            replace hf := hret_106 0 (Option.some.inj hf).symm
            exact absurd (hf.trans hr0) (by decide)
        replace hf := (if_neg c_106007).symm.trans hf
        by_cases c_106013 : x_106006 = 1
        · replace hf := (if_pos c_106013).symm.trans hf
          refine lv_tableIn (x := x_106006) (off := 57) (tgt := 231) hx hb dL_law_174 (by rw [c_106013]; decide) (by rw [c_106013]; decide) (by rw [c_106013]; rfl) (by decide) ?_
          refine lv_aload_n hx hb dL_law_231 rfl (lv_at hl 7 rfl) ?_
          refine lv_iload hx hb dL_law_232 (lv_at hl 2 rfl) ?_
          refine lv_iload_n hx hb dL_law_234 rfl (lv_at hl 6 rfl) ?_
          obtain ⟨x_106014, hx_106014, hf⟩ := Option.bind_eq_some_iff.mp hf
          refine q_rS (As := [.int (x_106003 + (5 * i4_106)), .int (4 + x_3)]) (rest := [.ref (a 0)]) ⟨hx, hb, hml, hown, hts⟩ (c_L_below l dC dI cI cJ (x_106003 + (5 * i4_106)) (4 + x_3) x_106014 hx_106014) (va_cwS 2 hts gM_law_L_below rfl rfl rfl (by decide +kernel) ⟨Nat.le_of_ble_eq_true rfl, Nat.le_of_ble_eq_true rfl⟩) (hK.sub (tys' := q_ty cI cJ) [0, 1] rfl) hn (hP.sub (ws' := []) [] rfl) rfl hl.1 rfl (Nat.le_of_ble_eq_true rfl) dL_law_235 ⟨by show kc_106 ≤ room_1.cells; omega, by show ks_106 ≤ room_1.slots; omega⟩ ?_
          refine lv_iload hx hb dL_law_238 (lv_at hl 2 rfl) ?_
          refine lv_bipush (v := 7) hx hb dL_law_240 (by decide) ?_
          refine lv_idiv hx hb dL_law_242 (by decide) ?_
          refine lv_iconst (v := 5) hx hb dL_law_243 (by decide) ?_
          obtain ⟨x_106015, hx_106015, hf⟩ := Option.bind_eq_some_iff.mp hf
          refine q_rS (As := [.int ((x_106003 + (5 * i4_106)) / 7), .int 5]) (rest := [.int x_106014, .ref (a 0)]) ⟨hx, hb, hml, hown, hts⟩ (c_L_below l dC dI cI cJ ((x_106003 + (5 * i4_106)) / 7) 5 x_106015 hx_106015) (va_cwS 2 hts gM_law_L_below rfl rfl rfl (by decide +kernel) ⟨Nat.le_of_ble_eq_true rfl, Nat.le_of_ble_eq_true rfl⟩) (hK.sub (tys' := q_ty cI cJ) [0, 1] rfl) hn (hP.sub (ws' := []) [] rfl) rfl hl.1 rfl (Nat.le_of_ble_eq_true rfl) dL_law_244 ⟨by show kc_106 ≤ room_1.cells; omega, by show ks_106 ≤ room_1.slots; omega⟩ ?_
          refine lv_iload hx hb dL_law_247 (lv_at hl 3 rfl) ?_
          refine lv_bipush (v := 9) hx hb dL_law_249 (by decide) ?_
          refine lv_idiv hx hb dL_law_251 (by decide) ?_
          refine lv_iconst (v := 3) hx hb dL_law_252 (by decide) ?_
          obtain ⟨x_106016, hx_106016, hf⟩ := Option.bind_eq_some_iff.mp hf
          refine q_rS (As := [.int ((x_106002 + (31 * i4_106)) / 9), .int 3]) (rest := [.int x_106015, .int x_106014, .ref (a 0)]) ⟨hx, hb, hml, hown, hts⟩ (c_L_below l dC dI cI cJ ((x_106002 + (31 * i4_106)) / 9) 3 x_106016 hx_106016) (va_cwS 2 hts gM_law_L_below rfl rfl rfl (by decide +kernel) ⟨Nat.le_of_ble_eq_true rfl, Nat.le_of_ble_eq_true rfl⟩) (hK.sub (tys' := q_ty cI cJ) [0, 1] rfl) hn (hP.sub (ws' := []) [] rfl) rfl hl.1 rfl (Nat.le_of_ble_eq_true rfl) dL_law_253 ⟨by show kc_106 ≤ room_1.cells; omega, by show ks_106 ≤ room_1.slots; omega⟩ ?_
          refine lv_iconst (v := 1) hx hb dL_law_256 (by decide) ?_
          refine lv_isub hx hb dL_law_257 ?_
          obtain ⟨x_106017, hx_106017, hf⟩ := Option.bind_eq_some_iff.mp hf
          have hPc := hP.sub (ws' := (wSg a cI cJ F_106 B_106 K_106 N_106 q_I0 q_T0)) [0, 1, 2, 3, 4, 5, 6, 7, 8, 9, 10, 11, 12, 13, 14, 15, 16, 17] rfl
          have hDc := hD.sub (ws' := (wSg a cI cJ F_106 B_106 K_106 N_106 q_I0 q_T0)) [0, 1, 2, 3, 4, 5, 6, 7, 8, 9, 10, 11, 12, 13, 14, 15, 16, 17] (by decide) rfl
          have hFc := va_free (wc := (wSg a cI cJ F_106 B_106 K_106 N_106 q_I0 q_T0)) hD hS hA [0, 1, 2, 3, 4, 5, 6, 7, 8, 9, 10, 11, 12, 13, 14, 15, 16, 17] rfl
          refine va_calli (va_runV (As := [.int x_106014, .int x_106015, .int (x_106016 - 1)]) (rest := []) ⟨hx, hb, hml, hown, hts⟩ (c_X5_stick l dC dI cI cJ a H.size F_106 B_106 K_106 N_106 q_I0 q_T0 x_106014 x_106015 (x_106016 - 1) x_106017 hx_106017) (cwV 3 hts gM_law_X5_stick rfl rfl rfl (by decide +kernel) ⟨Nat.le_of_ble_eq_true rfl, Nat.le_of_ble_eq_true rfl⟩) ⟨q_Wblind, va_recv (hK.sub (tys' := q_ty cI cJ) [0, 1] rfl) hPc (ci := 5) (q0 := 0) rfl rfl, q_Wpre hPc (hK.sub (tys' := q_ty cI cJ) [0, 1] rfl) hn hDc⟩ rfl rfl hl.1 rfl (lv_room (Nat.le_of_ble_eq_true rfl)) dL_law_258 ⟨by show kc_106 + 0 ≤ room_1.cells; omega, by show ks_106 + 0 ≤ room_1.slots; omega⟩) hS (fun q _ h => hFc q h) hFc (fun r_9 u t H1 locs ht hvm hw hB hz1 hk1 hS => ?_)
          subst hw
          obtain ⟨hP1, hK1, hD1⟩ := hB
          rw [ht] at hP1
          obtain ⟨hP, hD⟩ := va_join (wr := ([(q_6, .inl (cI, ((3 : Int32).toNatClampNeg), .inl z_7.2.2))])) (w1 := (wSg a cI cJ F_106 x_106017.2 K_106 N_106 q_I0 q_T0)) hP hD [0, 1, 2, 3, 4, 5, 6, 7, 8, 9, 10, 11, 12, 13, 14, 15, 16, 17] [18] rfl rfl (by decide) (by decide) hk1 hFc hP1 hD1
          generalize H1 = H at hP hS ⊢
          replace hP := hP.sub (ws' := (wSg a cI cJ F_106 x_106017.2 K_106 N_106 q_I0 q_T0 ++ [(q_6, .inl (cI, ((3 : Int32).toNatClampNeg), .inl z_7.2.2))])) [1, 2, 3, 4, 5, 6, 7, 8, 9, 10, 11, 12, 13, 14, 15, 16, 17, 18, 0] rfl
          replace hD := hD.sub (ws' := (wSg a cI cJ F_106 x_106017.2 K_106 N_106 q_I0 q_T0 ++ [(q_6, .inl (cI, ((3 : Int32).toNatClampNeg), .inl z_7.2.2))])) [1, 2, 3, 4, 5, 6, 7, 8, 9, 10, 11, 12, 13, 14, 15, 16, 17, 18, 0] (by decide) rfl
          have hP : va_P (dC, dI) vwCl (wSg a cI cJ F_106 x_106017.2 K_106 N_106 q_I0 q_T0 ++ [(q_6, .inl (cI, ((3 : Int32).toNatClampNeg), .inl z_7.2.2))]) H := hP
          have hD : va_D A (wSg a cI cJ F_106 x_106017.2 K_106 N_106 q_I0 q_T0 ++ [(q_6, .inl (cI, ((3 : Int32).toNatClampNeg), .inl z_7.2.2))]) := hD
          refine lv_pop hx hb dL_law_261 rfl ?_
          refine lv_goto (tgt := 311) hx hb dL_law_262 (by decide) ?_
          refine lv_aload_n hx hb dL_law_311 rfl (lv_at hl 7 rfl) ?_
          refine lv_iload_n hx hb dL_law_312 rfl (lv_at hl 6 rfl) ?_
          obtain ⟨x_106018, hx_106018, hf⟩ := Option.bind_eq_some_iff.mp hf
          have hPc := hP.sub (ws' := (wSg a cI cJ F_106 x_106017.2 K_106 N_106 q_I0 q_T0)) [0, 1, 2, 3, 4, 5, 6, 7, 8, 9, 10, 11, 12, 13, 14, 15, 16, 17] rfl
          have hDc := hD.sub (ws' := (wSg a cI cJ F_106 x_106017.2 K_106 N_106 q_I0 q_T0)) [0, 1, 2, 3, 4, 5, 6, 7, 8, 9, 10, 11, 12, 13, 14, 15, 16, 17] (by decide) rfl
          have hFc := va_free (wc := (wSg a cI cJ F_106 x_106017.2 K_106 N_106 q_I0 q_T0)) hD hS hA [0, 1, 2, 3, 4, 5, 6, 7, 8, 9, 10, 11, 12, 13, 14, 15, 16, 17] rfl
          refine va_calli (va_runS (As := [.ref (a 0), .int (4 + x_3)]) (rest := []) ⟨hx, hb, hml, hown, hts⟩ (c_L_isWell l dC dI cI cJ a H.size F_106 x_106017.2 K_106 N_106 q_I0 q_T0 (4 + x_3) x_106018 hx_106018) (va_cwS 2 hts gM_law_L_isWell rfl rfl rfl (by decide +kernel) ⟨Nat.le_of_ble_eq_true rfl, Nat.le_of_ble_eq_true rfl⟩) ⟨q_Wblind, q_Wpre hPc (hK.sub (tys' := q_ty cI cJ) [0, 1] rfl) hn hDc⟩ rfl rfl hl.1 rfl (lv_room (Nat.le_of_ble_eq_true rfl)) dL_law_313 ⟨by show kc_106 + 0 ≤ room_1.cells; omega, by show ks_106 + 0 ≤ room_1.slots; omega⟩) hS (fun q _ h => hFc q h) hFc (fun r_9 u t H1 locs ht hvm hw hB hz1 hk1 hS => ?_)
          subst hw
          obtain ⟨hP1, hK1, hD1⟩ := hB
          rw [ht] at hP1
          obtain ⟨hP, hD⟩ := va_join (wr := ([(q_6, .inl (cI, ((3 : Int32).toNatClampNeg), .inl z_7.2.2))])) (w1 := (wSg a cI cJ F_106 x_106017.2 K_106 x_106018.2 q_I0 q_T0)) hP hD [0, 1, 2, 3, 4, 5, 6, 7, 8, 9, 10, 11, 12, 13, 14, 15, 16, 17] [18] rfl rfl (by decide) (by decide) hk1 hFc hP1 hD1
          generalize H1 = H at hP hS ⊢
          replace hP := hP.sub (ws' := (wSg a cI cJ F_106 x_106017.2 K_106 x_106018.2 q_I0 q_T0 ++ [(q_6, .inl (cI, ((3 : Int32).toNatClampNeg), .inl z_7.2.2))])) [1, 2, 3, 4, 5, 6, 7, 8, 9, 10, 11, 12, 13, 14, 15, 16, 17, 18, 0] rfl
          replace hD := hD.sub (ws' := (wSg a cI cJ F_106 x_106017.2 K_106 x_106018.2 q_I0 q_T0 ++ [(q_6, .inl (cI, ((3 : Int32).toNatClampNeg), .inl z_7.2.2))])) [1, 2, 3, 4, 5, 6, 7, 8, 9, 10, 11, 12, 13, 14, 15, 16, 17, 18, 0] (by decide) rfl
          have hP : va_P (dC, dI) vwCl (wSg a cI cJ F_106 x_106017.2 K_106 x_106018.2 q_I0 q_T0 ++ [(q_6, .inl (cI, ((3 : Int32).toNatClampNeg), .inl z_7.2.2))]) H := hP
          have hD : va_D A (wSg a cI cJ F_106 x_106017.2 K_106 x_106018.2 q_I0 q_T0 ++ [(q_6, .inl (cI, ((3 : Int32).toNatClampNeg), .inl z_7.2.2))]) := hD
          refine lv_if_ne (tgt := 321) hx hb dL_law_316 (by decide) (fun c_106019 => ?_) (fun c_106019 => ?_)
          · replace hf := (if_neg c_106019).symm.trans hf
            refine lv_iinc (v := i4_106 + 1) (lv' := [(4, .int (i4_106 + 1)), (8, .int x_106005), (7, .int x_106004), (6, .int (x_106003 + (5 * i4_106))), (5, .int (x_106002 + (31 * i4_106))), (3, .ref q_6), (2, .int (4 + x_3)), (1, .ref (a 0)), (0, .ref b)]) hx hb dL_law_321 hl (k := 4) rfl rfl (by decide) rfl (fun ls hl => ?_)
            refine lv_goto (tgt := 106) hx hb dL_law_324 (by decide) ?_
            exact ih (i4_106 + 1) F_106 x_106017.2 K_106 x_106018.2 kc_106 ks_106 H locs ls _ (lv_sub hl [0, 5, 6, 7, 8] rfl) (by omega) (by omega) hP hD hS hf hret_106 hex_106
          · replace hf := (if_pos c_106019).symm.trans hf
            refine lv_iconst (v := 0) hx hb dL_law_319 (by decide) ?_
            replace hf := hret_106 0 (Option.some.inj hf).symm
            exact absurd (hf.trans hr0) (by decide)
        replace hf := (if_neg c_106013).symm.trans hf
        by_cases c_106020 : x_106006 = 2
        · replace hf := (if_pos c_106020).symm.trans hf
          refine lv_tableIn (x := x_106006) (off := 91) (tgt := 265) hx hb dL_law_174 (by rw [c_106020]; decide) (by rw [c_106020]; decide) (by rw [c_106020]; rfl) (by decide) ?_
          refine lv_aload_n hx hb dL_law_265 rfl (lv_at hl 7 rfl) ?_
          refine lv_iload hx hb dL_law_266 (lv_at hl 2 rfl) ?_
          refine lv_iload_n hx hb dL_law_268 rfl (lv_at hl 6 rfl) ?_
          obtain ⟨x_106021, hx_106021, hf⟩ := Option.bind_eq_some_iff.mp hf
          refine q_rS (As := [.int (x_106003 + (5 * i4_106)), .int (4 + x_3)]) (rest := [.ref (a 0)]) ⟨hx, hb, hml, hown, hts⟩ (c_L_below l dC dI cI cJ (x_106003 + (5 * i4_106)) (4 + x_3) x_106021 hx_106021) (va_cwS 2 hts gM_law_L_below rfl rfl rfl (by decide +kernel) ⟨Nat.le_of_ble_eq_true rfl, Nat.le_of_ble_eq_true rfl⟩) (hK.sub (tys' := q_ty cI cJ) [0, 1] rfl) hn (hP.sub (ws' := []) [] rfl) rfl hl.1 rfl (Nat.le_of_ble_eq_true rfl) dL_law_269 ⟨by show kc_106 ≤ room_1.cells; omega, by show ks_106 ≤ room_1.slots; omega⟩ ?_
          obtain ⟨x_106022, hx_106022, hf⟩ := Option.bind_eq_some_iff.mp hf
          have hPc := hP.sub (ws' := (wSg a cI cJ F_106 B_106 K_106 N_106 q_I0 q_T0)) [0, 1, 2, 3, 4, 5, 6, 7, 8, 9, 10, 11, 12, 13, 14, 15, 16, 17] rfl
          have hDc := hD.sub (ws' := (wSg a cI cJ F_106 B_106 K_106 N_106 q_I0 q_T0)) [0, 1, 2, 3, 4, 5, 6, 7, 8, 9, 10, 11, 12, 13, 14, 15, 16, 17] (by decide) rfl
          have hFc := va_free (wc := (wSg a cI cJ F_106 B_106 K_106 N_106 q_I0 q_T0)) hD hS hA [0, 1, 2, 3, 4, 5, 6, 7, 8, 9, 10, 11, 12, 13, 14, 15, 16, 17] rfl
          refine va_calli (va_runV (As := [.int x_106021]) (rest := []) ⟨hx, hb, hml, hown, hts⟩ (c_X5_swap l dC dI cI cJ a H.size F_106 B_106 K_106 N_106 q_I0 q_T0 x_106021 x_106022 hx_106022) (cwV 1 hts gM_law_X5_swap rfl rfl rfl (by decide +kernel) ⟨Nat.le_of_ble_eq_true rfl, Nat.le_of_ble_eq_true rfl⟩) ⟨q_Wblind, va_recv (hK.sub (tys' := q_ty cI cJ) [0, 1] rfl) hPc (ci := 5) (q0 := 0) rfl rfl, q_Wpre hPc (hK.sub (tys' := q_ty cI cJ) [0, 1] rfl) hn hDc⟩ rfl rfl hl.1 rfl (lv_room (Nat.le_of_ble_eq_true rfl)) dL_law_272 ⟨by show kc_106 + 0 ≤ room_1.cells; omega, by show ks_106 + 0 ≤ room_1.slots; omega⟩) hS (fun q _ h => hFc q h) hFc (fun r_9 u t H1 locs ht hvm hw hB hz1 hk1 hS => ?_)
          subst hw
          obtain ⟨hP1, hK1, hD1⟩ := hB
          rw [ht] at hP1
          obtain ⟨hP, hD⟩ := va_join (wr := ([(q_6, .inl (cI, ((3 : Int32).toNatClampNeg), .inl z_7.2.2))])) (w1 := (wSg a cI cJ F_106 x_106022.2 K_106 N_106 q_I0 q_T0)) hP hD [0, 1, 2, 3, 4, 5, 6, 7, 8, 9, 10, 11, 12, 13, 14, 15, 16, 17] [18] rfl rfl (by decide) (by decide) hk1 hFc hP1 hD1
          generalize H1 = H at hP hS ⊢
          replace hP := hP.sub (ws' := (wSg a cI cJ F_106 x_106022.2 K_106 N_106 q_I0 q_T0 ++ [(q_6, .inl (cI, ((3 : Int32).toNatClampNeg), .inl z_7.2.2))])) [1, 2, 3, 4, 5, 6, 7, 8, 9, 10, 11, 12, 13, 14, 15, 16, 17, 18, 0] rfl
          replace hD := hD.sub (ws' := (wSg a cI cJ F_106 x_106022.2 K_106 N_106 q_I0 q_T0 ++ [(q_6, .inl (cI, ((3 : Int32).toNatClampNeg), .inl z_7.2.2))])) [1, 2, 3, 4, 5, 6, 7, 8, 9, 10, 11, 12, 13, 14, 15, 16, 17, 18, 0] (by decide) rfl
          have hP : va_P (dC, dI) vwCl (wSg a cI cJ F_106 x_106022.2 K_106 N_106 q_I0 q_T0 ++ [(q_6, .inl (cI, ((3 : Int32).toNatClampNeg), .inl z_7.2.2))]) H := hP
          have hD : va_D A (wSg a cI cJ F_106 x_106022.2 K_106 N_106 q_I0 q_T0 ++ [(q_6, .inl (cI, ((3 : Int32).toNatClampNeg), .inl z_7.2.2))]) := hD
          refine lv_pop hx hb dL_law_275 rfl ?_
          refine lv_goto (tgt := 311) hx hb dL_law_276 (by decide) ?_
          refine lv_aload_n hx hb dL_law_311 rfl (lv_at hl 7 rfl) ?_
          refine lv_iload_n hx hb dL_law_312 rfl (lv_at hl 6 rfl) ?_
          obtain ⟨x_106023, hx_106023, hf⟩ := Option.bind_eq_some_iff.mp hf
          have hPc := hP.sub (ws' := (wSg a cI cJ F_106 x_106022.2 K_106 N_106 q_I0 q_T0)) [0, 1, 2, 3, 4, 5, 6, 7, 8, 9, 10, 11, 12, 13, 14, 15, 16, 17] rfl
          have hDc := hD.sub (ws' := (wSg a cI cJ F_106 x_106022.2 K_106 N_106 q_I0 q_T0)) [0, 1, 2, 3, 4, 5, 6, 7, 8, 9, 10, 11, 12, 13, 14, 15, 16, 17] (by decide) rfl
          have hFc := va_free (wc := (wSg a cI cJ F_106 x_106022.2 K_106 N_106 q_I0 q_T0)) hD hS hA [0, 1, 2, 3, 4, 5, 6, 7, 8, 9, 10, 11, 12, 13, 14, 15, 16, 17] rfl
          refine va_calli (va_runS (As := [.ref (a 0), .int (4 + x_3)]) (rest := []) ⟨hx, hb, hml, hown, hts⟩ (c_L_isWell l dC dI cI cJ a H.size F_106 x_106022.2 K_106 N_106 q_I0 q_T0 (4 + x_3) x_106023 hx_106023) (va_cwS 2 hts gM_law_L_isWell rfl rfl rfl (by decide +kernel) ⟨Nat.le_of_ble_eq_true rfl, Nat.le_of_ble_eq_true rfl⟩) ⟨q_Wblind, q_Wpre hPc (hK.sub (tys' := q_ty cI cJ) [0, 1] rfl) hn hDc⟩ rfl rfl hl.1 rfl (lv_room (Nat.le_of_ble_eq_true rfl)) dL_law_313 ⟨by show kc_106 + 0 ≤ room_1.cells; omega, by show ks_106 + 0 ≤ room_1.slots; omega⟩) hS (fun q _ h => hFc q h) hFc (fun r_9 u t H1 locs ht hvm hw hB hz1 hk1 hS => ?_)
          subst hw
          obtain ⟨hP1, hK1, hD1⟩ := hB
          rw [ht] at hP1
          obtain ⟨hP, hD⟩ := va_join (wr := ([(q_6, .inl (cI, ((3 : Int32).toNatClampNeg), .inl z_7.2.2))])) (w1 := (wSg a cI cJ F_106 x_106022.2 K_106 x_106023.2 q_I0 q_T0)) hP hD [0, 1, 2, 3, 4, 5, 6, 7, 8, 9, 10, 11, 12, 13, 14, 15, 16, 17] [18] rfl rfl (by decide) (by decide) hk1 hFc hP1 hD1
          generalize H1 = H at hP hS ⊢
          replace hP := hP.sub (ws' := (wSg a cI cJ F_106 x_106022.2 K_106 x_106023.2 q_I0 q_T0 ++ [(q_6, .inl (cI, ((3 : Int32).toNatClampNeg), .inl z_7.2.2))])) [1, 2, 3, 4, 5, 6, 7, 8, 9, 10, 11, 12, 13, 14, 15, 16, 17, 18, 0] rfl
          replace hD := hD.sub (ws' := (wSg a cI cJ F_106 x_106022.2 K_106 x_106023.2 q_I0 q_T0 ++ [(q_6, .inl (cI, ((3 : Int32).toNatClampNeg), .inl z_7.2.2))])) [1, 2, 3, 4, 5, 6, 7, 8, 9, 10, 11, 12, 13, 14, 15, 16, 17, 18, 0] (by decide) rfl
          have hP : va_P (dC, dI) vwCl (wSg a cI cJ F_106 x_106022.2 K_106 x_106023.2 q_I0 q_T0 ++ [(q_6, .inl (cI, ((3 : Int32).toNatClampNeg), .inl z_7.2.2))]) H := hP
          have hD : va_D A (wSg a cI cJ F_106 x_106022.2 K_106 x_106023.2 q_I0 q_T0 ++ [(q_6, .inl (cI, ((3 : Int32).toNatClampNeg), .inl z_7.2.2))]) := hD
          refine lv_if_ne (tgt := 321) hx hb dL_law_316 (by decide) (fun c_106024 => ?_) (fun c_106024 => ?_)
          · replace hf := (if_neg c_106024).symm.trans hf
            refine lv_iinc (v := i4_106 + 1) (lv' := [(4, .int (i4_106 + 1)), (8, .int x_106005), (7, .int x_106004), (6, .int (x_106003 + (5 * i4_106))), (5, .int (x_106002 + (31 * i4_106))), (3, .ref q_6), (2, .int (4 + x_3)), (1, .ref (a 0)), (0, .ref b)]) hx hb dL_law_321 hl (k := 4) rfl rfl (by decide) rfl (fun ls hl => ?_)
            refine lv_goto (tgt := 106) hx hb dL_law_324 (by decide) ?_
            exact ih (i4_106 + 1) F_106 x_106022.2 K_106 x_106023.2 kc_106 ks_106 H locs ls _ (lv_sub hl [0, 5, 6, 7, 8] rfl) (by omega) (by omega) hP hD hS hf hret_106 hex_106
          · replace hf := (if_pos c_106024).symm.trans hf
            refine lv_iconst (v := 0) hx hb dL_law_319 (by decide) ?_
            replace hf := hret_106 0 (Option.some.inj hf).symm
            exact absurd (hf.trans hr0) (by decide)
        replace hf := (if_neg c_106020).symm.trans hf
        by_cases c_106025 : x_106006 = 3
        · replace hf := (if_pos c_106025).symm.trans hf
          refine lv_tableIn (x := x_106006) (off := 105) (tgt := 279) hx hb dL_law_174 (by rw [c_106025]; decide) (by rw [c_106025]; decide) (by rw [c_106025]; rfl) (by decide) ?_
          refine lv_iload hx hb dL_law_279 (lv_at hl 1 rfl) ?_
          refine lv_bipush (v := 8) hx hb dL_law_281 (by decide) ?_
          refine lv_icmp_ge (tgt := 311) hx hb dL_law_283 (by decide) (fun c_106026 => ?_) (fun c_106026 => ?_)
          · replace hf := (if_pos c_106026).symm.trans hf
            refine lv_aload_n hx hb dL_law_311 rfl (lv_at hl 7 rfl) ?_
            refine lv_iload_n hx hb dL_law_312 rfl (lv_at hl 6 rfl) ?_
            obtain ⟨x_106027, hx_106027, hf⟩ := Option.bind_eq_some_iff.mp hf
            have hPc := hP.sub (ws' := (wSg a cI cJ F_106 B_106 K_106 N_106 q_I0 q_T0)) [0, 1, 2, 3, 4, 5, 6, 7, 8, 9, 10, 11, 12, 13, 14, 15, 16, 17] rfl
            have hDc := hD.sub (ws' := (wSg a cI cJ F_106 B_106 K_106 N_106 q_I0 q_T0)) [0, 1, 2, 3, 4, 5, 6, 7, 8, 9, 10, 11, 12, 13, 14, 15, 16, 17] (by decide) rfl
            have hFc := va_free (wc := (wSg a cI cJ F_106 B_106 K_106 N_106 q_I0 q_T0)) hD hS hA [0, 1, 2, 3, 4, 5, 6, 7, 8, 9, 10, 11, 12, 13, 14, 15, 16, 17] rfl
            refine va_calli (va_runS (As := [.ref (a 0), .int (4 + x_3)]) (rest := []) ⟨hx, hb, hml, hown, hts⟩ (c_L_isWell l dC dI cI cJ a H.size F_106 B_106 K_106 N_106 q_I0 q_T0 (4 + x_3) x_106027 hx_106027) (va_cwS 2 hts gM_law_L_isWell rfl rfl rfl (by decide +kernel) ⟨Nat.le_of_ble_eq_true rfl, Nat.le_of_ble_eq_true rfl⟩) ⟨q_Wblind, q_Wpre hPc (hK.sub (tys' := q_ty cI cJ) [0, 1] rfl) hn hDc⟩ rfl rfl hl.1 rfl (lv_room (Nat.le_of_ble_eq_true rfl)) dL_law_313 ⟨by show kc_106 + 0 ≤ room_1.cells; omega, by show ks_106 + 0 ≤ room_1.slots; omega⟩) hS (fun q _ h => hFc q h) hFc (fun r_9 u t H1 locs ht hvm hw hB hz1 hk1 hS => ?_)
            subst hw
            obtain ⟨hP1, hK1, hD1⟩ := hB
            rw [ht] at hP1
            obtain ⟨hP, hD⟩ := va_join (wr := ([(q_6, .inl (cI, ((3 : Int32).toNatClampNeg), .inl z_7.2.2))])) (w1 := (wSg a cI cJ F_106 B_106 K_106 x_106027.2 q_I0 q_T0)) hP hD [0, 1, 2, 3, 4, 5, 6, 7, 8, 9, 10, 11, 12, 13, 14, 15, 16, 17] [18] rfl rfl (by decide) (by decide) hk1 hFc hP1 hD1
            generalize H1 = H at hP hS ⊢
            replace hP := hP.sub (ws' := (wSg a cI cJ F_106 B_106 K_106 x_106027.2 q_I0 q_T0 ++ [(q_6, .inl (cI, ((3 : Int32).toNatClampNeg), .inl z_7.2.2))])) [1, 2, 3, 4, 5, 6, 7, 8, 9, 10, 11, 12, 13, 14, 15, 16, 17, 18, 0] rfl
            replace hD := hD.sub (ws' := (wSg a cI cJ F_106 B_106 K_106 x_106027.2 q_I0 q_T0 ++ [(q_6, .inl (cI, ((3 : Int32).toNatClampNeg), .inl z_7.2.2))])) [1, 2, 3, 4, 5, 6, 7, 8, 9, 10, 11, 12, 13, 14, 15, 16, 17, 18, 0] (by decide) rfl
            have hP : va_P (dC, dI) vwCl (wSg a cI cJ F_106 B_106 K_106 x_106027.2 q_I0 q_T0 ++ [(q_6, .inl (cI, ((3 : Int32).toNatClampNeg), .inl z_7.2.2))]) H := hP
            have hD : va_D A (wSg a cI cJ F_106 B_106 K_106 x_106027.2 q_I0 q_T0 ++ [(q_6, .inl (cI, ((3 : Int32).toNatClampNeg), .inl z_7.2.2))]) := hD
            refine lv_if_ne (tgt := 321) hx hb dL_law_316 (by decide) (fun c_106028 => ?_) (fun c_106028 => ?_)
            · replace hf := (if_neg c_106028).symm.trans hf
              refine lv_iinc (v := i4_106 + 1) (lv' := [(4, .int (i4_106 + 1)), (8, .int x_106005), (7, .int x_106004), (6, .int (x_106003 + (5 * i4_106))), (5, .int (x_106002 + (31 * i4_106))), (3, .ref q_6), (2, .int (4 + x_3)), (1, .ref (a 0)), (0, .ref b)]) hx hb dL_law_321 hl (k := 4) rfl rfl (by decide) rfl (fun ls hl => ?_)
              refine lv_goto (tgt := 106) hx hb dL_law_324 (by decide) ?_
              exact ih (i4_106 + 1) F_106 B_106 K_106 x_106027.2 kc_106 ks_106 H locs ls _ (lv_sub hl [0, 5, 6, 7, 8] rfl) (by omega) (by omega) hP hD hS hf hret_106 hex_106
            · replace hf := (if_pos c_106028).symm.trans hf
              refine lv_iconst (v := 0) hx hb dL_law_319 (by decide) ?_
              replace hf := hret_106 0 (Option.some.inj hf).symm
              exact absurd (hf.trans hr0) (by decide)
          · replace hf := (if_neg c_106026).symm.trans hf
            refine lv_aload_n hx hb dL_law_286 rfl (lv_at hl 7 rfl) ?_
            refine lv_iload hx hb dL_law_287 (lv_at hl 3 rfl) ?_
            refine lv_bipush (v := 9) hx hb dL_law_289 (by decide) ?_
            refine lv_idiv hx hb dL_law_291 (by decide) ?_
            obtain ⟨x_106029, hx_106029, hf⟩ := Option.bind_eq_some_iff.mp hf
            have hPc := hP.sub (ws' := (wSg a cI cJ F_106 B_106 K_106 N_106 q_I0 q_T0)) [0, 1, 2, 3, 4, 5, 6, 7, 8, 9, 10, 11, 12, 13, 14, 15, 16, 17] rfl
            have hDc := hD.sub (ws' := (wSg a cI cJ F_106 B_106 K_106 N_106 q_I0 q_T0)) [0, 1, 2, 3, 4, 5, 6, 7, 8, 9, 10, 11, 12, 13, 14, 15, 16, 17] (by decide) rfl
            have hFc := va_free (wc := (wSg a cI cJ F_106 B_106 K_106 N_106 q_I0 q_T0)) hD hS hA [0, 1, 2, 3, 4, 5, 6, 7, 8, 9, 10, 11, 12, 13, 14, 15, 16, 17] rfl
            refine va_callv (vx_runSW (As := [.ref (a 0), .int ((x_106002 + (31 * i4_106)) / 9)]) (rest := []) ⟨hx, hb, hml, hown, hts⟩ (c_L_list l hfl dC dI cI cJ a H.size F_106 B_106 K_106 N_106 q_I0 q_T0 ((x_106002 + (31 * i4_106)) / 9) x_106029 hx_106029) (vx_cwSW 2 hts gM_law_L_list rfl rfl rfl (by decide +kernel) ⟨Nat.le_of_ble_eq_true rfl, Nat.le_of_ble_eq_true rfl⟩) ⟨q_WXblind, q_WXpre hPc (hK.sub (tys' := q_ty cI cJ) [0, 1] rfl) hn hDc hXX hS hFc⟩ rfl rfl hl.1 rfl (lv_room (Nat.le_of_ble_eq_true rfl)) dL_law_292 ⟨by show kc_106 + 1 ≤ room_1.cells; omega, by show ks_106 + 6 ≤ room_1.slots; omega⟩) hS (fun q _ h => hFc q h) hFc (fun u t H1 locs ht hvm hw hB hz1 hk1 hS => ?_)
            obtain ⟨hP1, hK1, hD1⟩ := hB
            rw [ht] at hP1
            obtain ⟨hP, hD⟩ := va_join (wr := ([(q_6, .inl (cI, ((3 : Int32).toNatClampNeg), .inl z_7.2.2))])) (w1 := (wSg a cI cJ F_106 B_106 x_106029 N_106 q_I0 q_T0)) hP hD [0, 1, 2, 3, 4, 5, 6, 7, 8, 9, 10, 11, 12, 13, 14, 15, 16, 17] [18] rfl rfl (by decide) (by decide) hk1 hFc hP1 hD1
            generalize H1 = H at hP hS ⊢
            replace hP := hP.sub (ws' := (wSg a cI cJ F_106 B_106 x_106029 N_106 q_I0 q_T0 ++ [(q_6, .inl (cI, ((3 : Int32).toNatClampNeg), .inl z_7.2.2))])) [1, 2, 3, 4, 5, 6, 7, 8, 9, 10, 11, 12, 13, 14, 15, 16, 17, 18, 0] rfl
            replace hD := hD.sub (ws' := (wSg a cI cJ F_106 B_106 x_106029 N_106 q_I0 q_T0 ++ [(q_6, .inl (cI, ((3 : Int32).toNatClampNeg), .inl z_7.2.2))])) [1, 2, 3, 4, 5, 6, 7, 8, 9, 10, 11, 12, 13, 14, 15, 16, 17, 18, 0] (by decide) rfl
            have hP : va_P (dC, dI) vwCl (wSg a cI cJ F_106 B_106 x_106029 N_106 q_I0 q_T0 ++ [(q_6, .inl (cI, ((3 : Int32).toNatClampNeg), .inl z_7.2.2))]) H := hP
            have hD : va_D A (wSg a cI cJ F_106 B_106 x_106029 N_106 q_I0 q_T0 ++ [(q_6, .inl (cI, ((3 : Int32).toNatClampNeg), .inl z_7.2.2))]) := hD
            refine W.widen (k := kc_106 + 1) (n := ks_106 + 6) (by omega) (by omega) ?_
            refine lv_goto (tgt := 311) hx hb dL_law_295 (by decide) ?_
            refine lv_aload_n hx hb dL_law_311 rfl (lv_at hl 7 rfl) ?_
            refine lv_iload_n hx hb dL_law_312 rfl (lv_at hl 6 rfl) ?_
            obtain ⟨x_106030, hx_106030, hf⟩ := Option.bind_eq_some_iff.mp hf
            have hPc := hP.sub (ws' := (wSg a cI cJ F_106 B_106 x_106029 N_106 q_I0 q_T0)) [0, 1, 2, 3, 4, 5, 6, 7, 8, 9, 10, 11, 12, 13, 14, 15, 16, 17] rfl
            have hDc := hD.sub (ws' := (wSg a cI cJ F_106 B_106 x_106029 N_106 q_I0 q_T0)) [0, 1, 2, 3, 4, 5, 6, 7, 8, 9, 10, 11, 12, 13, 14, 15, 16, 17] (by decide) rfl
            have hFc := va_free (wc := (wSg a cI cJ F_106 B_106 x_106029 N_106 q_I0 q_T0)) hD hS hA [0, 1, 2, 3, 4, 5, 6, 7, 8, 9, 10, 11, 12, 13, 14, 15, 16, 17] rfl
            refine va_calli (va_runS (As := [.ref (a 0), .int (4 + x_3)]) (rest := []) ⟨hx, hb, hml, hown, hts⟩ (c_L_isWell l dC dI cI cJ a H.size F_106 B_106 x_106029 N_106 q_I0 q_T0 (4 + x_3) x_106030 hx_106030) (va_cwS 2 hts gM_law_L_isWell rfl rfl rfl (by decide +kernel) ⟨Nat.le_of_ble_eq_true rfl, Nat.le_of_ble_eq_true rfl⟩) ⟨q_Wblind, q_Wpre hPc (hK.sub (tys' := q_ty cI cJ) [0, 1] rfl) hn hDc⟩ rfl rfl hl.1 rfl (lv_room (Nat.le_of_ble_eq_true rfl)) dL_law_313 ⟨by show kc_106 + 1 + 0 ≤ room_1.cells; omega, by show ks_106 + 6 + 0 ≤ room_1.slots; omega⟩) hS (fun q _ h => hFc q h) hFc (fun r_9 u t H1 locs ht hvm hw hB hz1 hk1 hS => ?_)
            subst hw
            obtain ⟨hP1, hK1, hD1⟩ := hB
            rw [ht] at hP1
            obtain ⟨hP, hD⟩ := va_join (wr := ([(q_6, .inl (cI, ((3 : Int32).toNatClampNeg), .inl z_7.2.2))])) (w1 := (wSg a cI cJ F_106 B_106 x_106029 x_106030.2 q_I0 q_T0)) hP hD [0, 1, 2, 3, 4, 5, 6, 7, 8, 9, 10, 11, 12, 13, 14, 15, 16, 17] [18] rfl rfl (by decide) (by decide) hk1 hFc hP1 hD1
            generalize H1 = H at hP hS ⊢
            replace hP := hP.sub (ws' := (wSg a cI cJ F_106 B_106 x_106029 x_106030.2 q_I0 q_T0 ++ [(q_6, .inl (cI, ((3 : Int32).toNatClampNeg), .inl z_7.2.2))])) [1, 2, 3, 4, 5, 6, 7, 8, 9, 10, 11, 12, 13, 14, 15, 16, 17, 18, 0] rfl
            replace hD := hD.sub (ws' := (wSg a cI cJ F_106 B_106 x_106029 x_106030.2 q_I0 q_T0 ++ [(q_6, .inl (cI, ((3 : Int32).toNatClampNeg), .inl z_7.2.2))])) [1, 2, 3, 4, 5, 6, 7, 8, 9, 10, 11, 12, 13, 14, 15, 16, 17, 18, 0] (by decide) rfl
            have hP : va_P (dC, dI) vwCl (wSg a cI cJ F_106 B_106 x_106029 x_106030.2 q_I0 q_T0 ++ [(q_6, .inl (cI, ((3 : Int32).toNatClampNeg), .inl z_7.2.2))]) H := hP
            have hD : va_D A (wSg a cI cJ F_106 B_106 x_106029 x_106030.2 q_I0 q_T0 ++ [(q_6, .inl (cI, ((3 : Int32).toNatClampNeg), .inl z_7.2.2))]) := hD
            refine lv_if_ne (tgt := 321) hx hb dL_law_316 (by decide) (fun c_106031 => ?_) (fun c_106031 => ?_)
            · replace hf := (if_neg c_106031).symm.trans hf
              refine lv_iinc (v := i4_106 + 1) (lv' := [(4, .int (i4_106 + 1)), (8, .int x_106005), (7, .int x_106004), (6, .int (x_106003 + (5 * i4_106))), (5, .int (x_106002 + (31 * i4_106))), (3, .ref q_6), (2, .int (4 + x_3)), (1, .ref (a 0)), (0, .ref b)]) hx hb dL_law_321 hl (k := 4) rfl rfl (by decide) rfl (fun ls hl => ?_)
              refine lv_goto (tgt := 106) hx hb dL_law_324 (by decide) ?_
              exact ih (i4_106 + 1) F_106 B_106 x_106029 x_106030.2 (kc_106 + 1) (ks_106 + 6) H locs ls _ (lv_sub hl [0, 5, 6, 7, 8] rfl) (by omega) (by omega) hP hD hS hf hret_106 hex_106
            · replace hf := (if_pos c_106031).symm.trans hf
              refine lv_iconst (v := 0) hx hb dL_law_319 (by decide) ?_
              replace hf := hret_106 0 (Option.some.inj hf).symm
              exact absurd (hf.trans hr0) (by decide)
        replace hf := (if_neg c_106025).symm.trans hf
        have e_0 := q_sw x_106006 0 c_106007 (by decide)
        have e_1 := q_sw x_106006 1 c_106013 (by decide)
        have e_2 := q_sw x_106006 2 c_106020 (by decide)
        have e_3 := q_sw x_106006 3 c_106025 (by decide)
        have g_106036 : W p l e room_1 s m #[Value.ref b] below meth c H locs kc_106 ks_106 (lw_Z below #[Value.ref b] s) (F0 m 298 ls []) := by
          refine lv_aload_n hx hb dL_law_298 rfl (lv_at hl 7 rfl) ?_
          refine lv_iload hx hb dL_law_299 (lv_at hl 0 rfl) ?_
          refine lv_iload_n hx hb dL_law_301 rfl (lv_at hl 6 rfl) ?_
          refine lv_aload_n hx hb dL_law_302 rfl (lv_at hl 5 rfl) ?_
          obtain ⟨x_106032, hx_106032, hf⟩ := Option.bind_eq_some_iff.mp hf
          have hFc := va_free (wc := (wSg a cI cJ F_106 B_106 K_106 N_106 q_I0 q_T0 ++ [(q_6, .inl (cI, ((3 : Int32).toNatClampNeg), .inl z_7.2.2))])) hD hS hA [0, 1, 2, 3, 4, 5, 6, 7, 8, 9, 10, 11, 12, 13, 14, 15, 16, 17, 18] rfl
          refine va_calli (va_runS (As := [.ref (a 0), .int x_106005, .int (4 + x_3), .ref q_6]) (rest := []) ⟨hx, hb, hml, hown, hts⟩ (c_L_isShown l dC dI cI cJ cZ a q_6 H.size F_106 B_106 K_106 N_106 q_I0 q_T0 ((3 : Int32).toNatClampNeg) z_7.2.2 x_106005 (4 + x_3) x_106032 hx_106032) (va_cwS 4 hts gM_law_L_isShown rfl rfl rfl (by decide +kernel) ⟨Nat.le_of_ble_eq_true rfl, Nat.le_of_ble_eq_true rfl⟩) ⟨q_Wblind, q_Wpre hP hK hn hD⟩ rfl rfl hl.1 rfl (lv_room (Nat.le_of_ble_eq_true rfl)) dL_law_303 ⟨by show kc_106 + 193 ≤ room_1.cells; omega, by show ks_106 + 7412 ≤ room_1.slots; omega⟩) hS (fun q _ h => hFc q h) hFc (fun r_9 u t H1 locs ht hvm hw hB hz1 hk1 hS => ?_)
          subst hw
          obtain ⟨hP1, hK1, hD1⟩ := hB
          rw [ht] at hP1
          obtain ⟨hP, hD⟩ := va_join (wr := []) (w1 := (wSg a cI cJ x_106032.2.1 x_106032.2.2.1 K_106 x_106032.2.2.2 q_I0 q_T0 ++ [(q_6, .inl (cI, ((3 : Int32).toNatClampNeg), .inl z_7.2.2))])) hP hD [0, 1, 2, 3, 4, 5, 6, 7, 8, 9, 10, 11, 12, 13, 14, 15, 16, 17, 18] [] rfl rfl (by decide) (by decide) hk1 hFc hP1 hD1
          generalize H1 = H at hP hS ⊢
          have hP : va_P (dC, dI) vwCl (wSg a cI cJ x_106032.2.1 x_106032.2.2.1 K_106 x_106032.2.2.2 q_I0 q_T0 ++ [(q_6, .inl (cI, ((3 : Int32).toNatClampNeg), .inl z_7.2.2))]) H := hP
          have hD : va_D A (wSg a cI cJ x_106032.2.1 x_106032.2.2.1 K_106 x_106032.2.2.2 q_I0 q_T0 ++ [(q_6, .inl (cI, ((3 : Int32).toNatClampNeg), .inl z_7.2.2))]) := hD
          refine W.widen (k := kc_106 + 193) (n := ks_106 + 7412) (by omega) (by omega) ?_
          refine lv_if_ne (tgt := 311) hx hb dL_law_306 (by decide) (fun c_106033 => ?_) (fun c_106033 => ?_)
          · replace hf := (if_neg c_106033).symm.trans hf
            refine lv_aload_n hx hb dL_law_311 rfl (lv_at hl 7 rfl) ?_
            refine lv_iload_n hx hb dL_law_312 rfl (lv_at hl 6 rfl) ?_
            obtain ⟨x_106034, hx_106034, hf⟩ := Option.bind_eq_some_iff.mp hf
            have hPc := hP.sub (ws' := (wSg a cI cJ x_106032.2.1 x_106032.2.2.1 K_106 x_106032.2.2.2 q_I0 q_T0)) [0, 1, 2, 3, 4, 5, 6, 7, 8, 9, 10, 11, 12, 13, 14, 15, 16, 17] rfl
            have hDc := hD.sub (ws' := (wSg a cI cJ x_106032.2.1 x_106032.2.2.1 K_106 x_106032.2.2.2 q_I0 q_T0)) [0, 1, 2, 3, 4, 5, 6, 7, 8, 9, 10, 11, 12, 13, 14, 15, 16, 17] (by decide) rfl
            have hFc := va_free (wc := (wSg a cI cJ x_106032.2.1 x_106032.2.2.1 K_106 x_106032.2.2.2 q_I0 q_T0)) hD hS hA [0, 1, 2, 3, 4, 5, 6, 7, 8, 9, 10, 11, 12, 13, 14, 15, 16, 17] rfl
            refine va_calli (va_runS (As := [.ref (a 0), .int (4 + x_3)]) (rest := []) ⟨hx, hb, hml, hown, hts⟩ (c_L_isWell l dC dI cI cJ a H.size x_106032.2.1 x_106032.2.2.1 K_106 x_106032.2.2.2 q_I0 q_T0 (4 + x_3) x_106034 hx_106034) (va_cwS 2 hts gM_law_L_isWell rfl rfl rfl (by decide +kernel) ⟨Nat.le_of_ble_eq_true rfl, Nat.le_of_ble_eq_true rfl⟩) ⟨q_Wblind, q_Wpre hPc (hK.sub (tys' := q_ty cI cJ) [0, 1] rfl) hn hDc⟩ rfl rfl hl.1 rfl (lv_room (Nat.le_of_ble_eq_true rfl)) dL_law_313 ⟨by show kc_106 + 193 + 0 ≤ room_1.cells; omega, by show ks_106 + 7412 + 0 ≤ room_1.slots; omega⟩) hS (fun q _ h => hFc q h) hFc (fun r_9 u t H1 locs ht hvm hw hB hz1 hk1 hS => ?_)
            subst hw
            obtain ⟨hP1, hK1, hD1⟩ := hB
            rw [ht] at hP1
            obtain ⟨hP, hD⟩ := va_join (wr := ([(q_6, .inl (cI, ((3 : Int32).toNatClampNeg), .inl z_7.2.2))])) (w1 := (wSg a cI cJ x_106032.2.1 x_106032.2.2.1 K_106 x_106034.2 q_I0 q_T0)) hP hD [0, 1, 2, 3, 4, 5, 6, 7, 8, 9, 10, 11, 12, 13, 14, 15, 16, 17] [18] rfl rfl (by decide) (by decide) hk1 hFc hP1 hD1
            generalize H1 = H at hP hS ⊢
            replace hP := hP.sub (ws' := (wSg a cI cJ x_106032.2.1 x_106032.2.2.1 K_106 x_106034.2 q_I0 q_T0 ++ [(q_6, .inl (cI, ((3 : Int32).toNatClampNeg), .inl z_7.2.2))])) [1, 2, 3, 4, 5, 6, 7, 8, 9, 10, 11, 12, 13, 14, 15, 16, 17, 18, 0] rfl
            replace hD := hD.sub (ws' := (wSg a cI cJ x_106032.2.1 x_106032.2.2.1 K_106 x_106034.2 q_I0 q_T0 ++ [(q_6, .inl (cI, ((3 : Int32).toNatClampNeg), .inl z_7.2.2))])) [1, 2, 3, 4, 5, 6, 7, 8, 9, 10, 11, 12, 13, 14, 15, 16, 17, 18, 0] (by decide) rfl
            have hP : va_P (dC, dI) vwCl (wSg a cI cJ x_106032.2.1 x_106032.2.2.1 K_106 x_106034.2 q_I0 q_T0 ++ [(q_6, .inl (cI, ((3 : Int32).toNatClampNeg), .inl z_7.2.2))]) H := hP
            have hD : va_D A (wSg a cI cJ x_106032.2.1 x_106032.2.2.1 K_106 x_106034.2 q_I0 q_T0 ++ [(q_6, .inl (cI, ((3 : Int32).toNatClampNeg), .inl z_7.2.2))]) := hD
            refine lv_if_ne (tgt := 321) hx hb dL_law_316 (by decide) (fun c_106035 => ?_) (fun c_106035 => ?_)
            · replace hf := (if_neg c_106035).symm.trans hf
              refine lv_iinc (v := i4_106 + 1) (lv' := [(4, .int (i4_106 + 1)), (8, .int x_106005), (7, .int x_106004), (6, .int (x_106003 + (5 * i4_106))), (5, .int (x_106002 + (31 * i4_106))), (3, .ref q_6), (2, .int (4 + x_3)), (1, .ref (a 0)), (0, .ref b)]) hx hb dL_law_321 hl (k := 4) rfl rfl (by decide) rfl (fun ls hl => ?_)
              refine lv_goto (tgt := 106) hx hb dL_law_324 (by decide) ?_
              exact ih (i4_106 + 1) x_106032.2.1 x_106032.2.2.1 K_106 x_106034.2 (kc_106 + 193) (ks_106 + 7412) H locs ls _ (lv_sub hl [0, 5, 6, 7, 8] rfl) (by omega) (by omega) hP hD hS hf hret_106 hex_106
            · replace hf := (if_pos c_106035).symm.trans hf
              refine lv_iconst (v := 0) hx hb dL_law_319 (by decide) ?_
              replace hf := hret_106 0 (Option.some.inj hf).symm
              exact absurd (hf.trans hr0) (by decide)
          · replace hf := (if_pos c_106033).symm.trans hf
            refine lv_iconst (v := 0) hx hb dL_law_309 (by decide) ?_
            replace hf := hret_106 0 (Option.some.inj hf).symm
            exact absurd (hf.trans hr0) (by decide)
        exact lv_tableOut (x := x_106006) (tgt := 298) hx hb dL_law_174 (by omega) (by decide) g_106036
  obtain ⟨z_9, hz_9, hf⟩ := Option.bind_eq_some_iff.mp hf
  refine L_106 27 0 x_4.2.1 x_4.2.2 z_8.2 q_N0 25 758 H locs ls z_9 (lv_sub hl [0, 1, 2, 3, 4] rfl) (by omega) (by omega) hP hD hS hz_9 (fun r_ hz => by rw [hz] at hf; exact Option.some.inj hf) (fun y_10 H locs ls hz hl hP hD hS => ?_)
  subst hz
  simp only [Sum.elim_inr] at hf
  refine lv_aload_n hx hb dL_law_327 rfl (lv_at hl 3 rfl) ?_
  obtain ⟨x_11, hx_11, hf⟩ := Option.bind_eq_some_iff.mp hf
  have hPc := hP.sub (ws' := (wSg a cI cJ y_10.2.1 y_10.2.2.1 y_10.2.2.2.1 y_10.2.2.2.2 q_I0 q_T0)) [0, 1, 2, 3, 4, 5, 6, 7, 8, 9, 10, 11, 12, 13, 14, 15, 16, 17] rfl
  have hDc := hD.sub (ws' := (wSg a cI cJ y_10.2.1 y_10.2.2.1 y_10.2.2.2.1 y_10.2.2.2.2 q_I0 q_T0)) [0, 1, 2, 3, 4, 5, 6, 7, 8, 9, 10, 11, 12, 13, 14, 15, 16, 17] (by decide) rfl
  have hFc := va_free (wc := (wSg a cI cJ y_10.2.1 y_10.2.2.1 y_10.2.2.2.1 y_10.2.2.2.2 q_I0 q_T0)) hD hS hA [0, 1, 2, 3, 4, 5, 6, 7, 8, 9, 10, 11, 12, 13, 14, 15, 16, 17] rfl
  refine va_calll (va_runV (As := []) (rest := []) ⟨hx, hb, hml, hown, hts⟩ (c_X5_digest l dC dI cI cJ a H.size y_10.2.1 y_10.2.2.1 y_10.2.2.2.1 y_10.2.2.2.2 q_I0 q_T0 x_11 hx_11) (cwV 0 hts gM_law_X5_digest rfl rfl rfl (by decide +kernel) ⟨Nat.le_of_ble_eq_true rfl, Nat.le_of_ble_eq_true rfl⟩) ⟨q_Wblind, va_recv (hK.sub (tys' := q_ty cI cJ) [0, 1] rfl) hPc (ci := 5) (q0 := 0) rfl rfl, q_Wpre hPc (hK.sub (tys' := q_ty cI cJ) [0, 1] rfl) hn hDc⟩ rfl rfl hl.1 rfl (lv_room (Nat.le_of_ble_eq_true rfl)) dL_law_328 ⟨by show 5236 + 0 ≤ room_1.cells; omega, by show 200882 + 0 ≤ room_1.slots; omega⟩) hS (fun q _ h => hFc q h) hFc (fun r_9 u t H1 locs ht hvm hw hB hz1 hk1 hS => ?_)
  subst hw
  obtain ⟨hP1, hK1, hD1⟩ := hB
  rw [ht] at hP1
  obtain ⟨hP, hD⟩ := va_join (wr := ([(q_6, .inl (cI, ((3 : Int32).toNatClampNeg), .inl z_7.2.2))])) (w1 := (wSg a cI cJ y_10.2.1 y_10.2.2.1 y_10.2.2.2.1 x_11.2 q_I0 q_T0)) hP hD [0, 1, 2, 3, 4, 5, 6, 7, 8, 9, 10, 11, 12, 13, 14, 15, 16, 17] [18] rfl rfl (by decide) (by decide) hk1 hFc hP1 hD1
  generalize H1 = H at hP hS ⊢
  replace hP := hP.sub (ws' := (wSg a cI cJ y_10.2.1 y_10.2.2.1 y_10.2.2.2.1 x_11.2 q_I0 q_T0 ++ [(q_6, .inl (cI, ((3 : Int32).toNatClampNeg), .inl z_7.2.2))])) [1, 2, 3, 4, 5, 6, 7, 8, 9, 10, 11, 12, 13, 14, 15, 16, 17, 18, 0] rfl
  replace hD := hD.sub (ws' := (wSg a cI cJ y_10.2.1 y_10.2.2.1 y_10.2.2.2.1 x_11.2 q_I0 q_T0 ++ [(q_6, .inl (cI, ((3 : Int32).toNatClampNeg), .inl z_7.2.2))])) [1, 2, 3, 4, 5, 6, 7, 8, 9, 10, 11, 12, 13, 14, 15, 16, 17, 18, 0] (by decide) rfl
  have hP : va_P (dC, dI) vwCl (wSg a cI cJ y_10.2.1 y_10.2.2.1 y_10.2.2.2.1 x_11.2 q_I0 q_T0 ++ [(q_6, .inl (cI, ((3 : Int32).toNatClampNeg), .inl z_7.2.2))]) H := hP
  have hD : va_D A (wSg a cI cJ y_10.2.1 y_10.2.2.1 y_10.2.2.2.1 x_11.2 q_I0 q_T0 ++ [(q_6, .inl (cI, ((3 : Int32).toNatClampNeg), .inl z_7.2.2))]) := hD
  refine lv_lstore (lv' := [(4, .long x_11.1), (3, .ref q_6), (2, .int (4 + x_3)), (1, .ref (a 0)), (0, .ref b)]) hx hb dL_law_331 hl (by decide) rfl (fun ls hl => ?_)
  refine lv_aload_n hx hb dL_law_333 rfl (lv_at hl 3 rfl) ?_
  refine lv_bipush (v := 7) hx hb dL_law_334 (by decide) ?_
  obtain ⟨x_12, hx_12, hf⟩ := Option.bind_eq_some_iff.mp hf
  refine q_rV (As := [.int 7]) (rest := []) ⟨hx, hb, hml, hown, hts⟩ (c_X5_sign l dC dI cI cJ a y_10.2.1 y_10.2.2.1 y_10.2.2.2.1 x_11.2 q_I0 q_T0 7 x_12 hx_12) (cwV 1 hts gM_law_X5_sign rfl rfl rfl (by decide +kernel) ⟨Nat.le_of_ble_eq_true rfl, Nat.le_of_ble_eq_true rfl⟩) (hK.sub (tys' := q_ty cI cJ) [0, 1] rfl) hn (hP.sub (ws' := (wSg a cI cJ y_10.2.1 y_10.2.2.1 y_10.2.2.2.1 x_11.2 q_I0 q_T0)) [0, 1, 2, 3, 4, 5, 6, 7, 8, 9, 10, 11, 12, 13, 14, 15, 16, 17] rfl) (ci := 5) rfl rfl rfl hl.1 rfl (Nat.le_of_ble_eq_true rfl) dL_law_336 ⟨by show 5236 ≤ room_1.cells; omega, by show 200882 ≤ room_1.slots; omega⟩ ?_
  refine lv_aload_n hx hb dL_law_339 rfl (lv_at hl 3 rfl) ?_
  refine lv_bipush (v := 8) hx hb dL_law_340 (by decide) ?_
  obtain ⟨x_13, hx_13, hf⟩ := Option.bind_eq_some_iff.mp hf
  refine q_rV (As := [.int 8]) (rest := [.int x_12]) ⟨hx, hb, hml, hown, hts⟩ (c_X5_sign l dC dI cI cJ a y_10.2.1 y_10.2.2.1 y_10.2.2.2.1 x_11.2 q_I0 q_T0 8 x_13 hx_13) (cwV 1 hts gM_law_X5_sign rfl rfl rfl (by decide +kernel) ⟨Nat.le_of_ble_eq_true rfl, Nat.le_of_ble_eq_true rfl⟩) (hK.sub (tys' := q_ty cI cJ) [0, 1] rfl) hn (hP.sub (ws' := (wSg a cI cJ y_10.2.1 y_10.2.2.1 y_10.2.2.2.1 x_11.2 q_I0 q_T0)) [0, 1, 2, 3, 4, 5, 6, 7, 8, 9, 10, 11, 12, 13, 14, 15, 16, 17] rfl) (ci := 5) rfl rfl rfl hl.1 rfl (Nat.le_of_ble_eq_true rfl) dL_law_342 ⟨by show 5236 ≤ room_1.cells; omega, by show 200882 ≤ room_1.slots; omega⟩ ?_
  refine lv_icmp_lt (tgt := 369) hx hb dL_law_345 (by decide) (fun c_14 => ?_) (fun c_14 => ?_)
  · replace hf := (if_pos c_14).symm.trans hf
    refine lv_iconst (v := 0) hx hb dL_law_369 (by decide) ?_
    replace hf := Option.some.inj hf
    exact absurd (hf.trans hr0) (by decide)
  · replace hf := (if_neg c_14).symm.trans hf
    refine lv_aload_n hx hb dL_law_348 rfl (lv_at hl 3 rfl) ?_
    obtain ⟨x_15, hx_15, hf⟩ := Option.bind_eq_some_iff.mp hf
    have hPc := hP.sub (ws' := (wSg a cI cJ y_10.2.1 y_10.2.2.1 y_10.2.2.2.1 x_11.2 q_I0 q_T0)) [0, 1, 2, 3, 4, 5, 6, 7, 8, 9, 10, 11, 12, 13, 14, 15, 16, 17] rfl
    have hDc := hD.sub (ws' := (wSg a cI cJ y_10.2.1 y_10.2.2.1 y_10.2.2.2.1 x_11.2 q_I0 q_T0)) [0, 1, 2, 3, 4, 5, 6, 7, 8, 9, 10, 11, 12, 13, 14, 15, 16, 17] (by decide) rfl
    have hFc := va_free (wc := (wSg a cI cJ y_10.2.1 y_10.2.2.1 y_10.2.2.2.1 x_11.2 q_I0 q_T0)) hD hS hA [0, 1, 2, 3, 4, 5, 6, 7, 8, 9, 10, 11, 12, 13, 14, 15, 16, 17] rfl
    refine va_calll (va_runV (As := []) (rest := []) ⟨hx, hb, hml, hown, hts⟩ (c_X5_digest l dC dI cI cJ a H.size y_10.2.1 y_10.2.2.1 y_10.2.2.2.1 x_11.2 q_I0 q_T0 x_15 hx_15) (cwV 0 hts gM_law_X5_digest rfl rfl rfl (by decide +kernel) ⟨Nat.le_of_ble_eq_true rfl, Nat.le_of_ble_eq_true rfl⟩) ⟨q_Wblind, va_recv (hK.sub (tys' := q_ty cI cJ) [0, 1] rfl) hPc (ci := 5) (q0 := 0) rfl rfl, q_Wpre hPc (hK.sub (tys' := q_ty cI cJ) [0, 1] rfl) hn hDc⟩ rfl rfl hl.1 rfl (lv_room (Nat.le_of_ble_eq_true rfl)) dL_law_349 ⟨by show 5236 + 0 ≤ room_1.cells; omega, by show 200882 + 0 ≤ room_1.slots; omega⟩) hS (fun q _ h => hFc q h) hFc (fun r_9 u t H1 locs ht hvm hw hB hz1 hk1 hS => ?_)
    subst hw
    obtain ⟨hP1, hK1, hD1⟩ := hB
    rw [ht] at hP1
    obtain ⟨hP, hD⟩ := va_join (wr := ([(q_6, .inl (cI, ((3 : Int32).toNatClampNeg), .inl z_7.2.2))])) (w1 := (wSg a cI cJ y_10.2.1 y_10.2.2.1 y_10.2.2.2.1 x_15.2 q_I0 q_T0)) hP hD [0, 1, 2, 3, 4, 5, 6, 7, 8, 9, 10, 11, 12, 13, 14, 15, 16, 17] [18] rfl rfl (by decide) (by decide) hk1 hFc hP1 hD1
    generalize H1 = H at hP hS ⊢
    replace hP := hP.sub (ws' := (wSg a cI cJ y_10.2.1 y_10.2.2.1 y_10.2.2.2.1 x_15.2 q_I0 q_T0 ++ [(q_6, .inl (cI, ((3 : Int32).toNatClampNeg), .inl z_7.2.2))])) [1, 2, 3, 4, 5, 6, 7, 8, 9, 10, 11, 12, 13, 14, 15, 16, 17, 18, 0] rfl
    replace hD := hD.sub (ws' := (wSg a cI cJ y_10.2.1 y_10.2.2.1 y_10.2.2.2.1 x_15.2 q_I0 q_T0 ++ [(q_6, .inl (cI, ((3 : Int32).toNatClampNeg), .inl z_7.2.2))])) [1, 2, 3, 4, 5, 6, 7, 8, 9, 10, 11, 12, 13, 14, 15, 16, 17, 18, 0] (by decide) rfl
    have hP : va_P (dC, dI) vwCl (wSg a cI cJ y_10.2.1 y_10.2.2.1 y_10.2.2.2.1 x_15.2 q_I0 q_T0 ++ [(q_6, .inl (cI, ((3 : Int32).toNatClampNeg), .inl z_7.2.2))]) H := hP
    have hD : va_D A (wSg a cI cJ y_10.2.1 y_10.2.2.1 y_10.2.2.2.1 x_15.2 q_I0 q_T0 ++ [(q_6, .inl (cI, ((3 : Int32).toNatClampNeg), .inl z_7.2.2))]) := hD
    refine lv_lload hx hb dL_law_352 (lv_at hl 0 rfl) ?_
    refine W.lcmp hx hb dL_law_354 ?_
    refine lv_if_ne (tgt := 369) hx hb dL_law_355 (by decide) (fun c_16 => ?_) (fun c_16 => ?_)
    · replace hf := (if_neg c_16).symm.trans hf
      refine lv_iconst (v := 0) hx hb dL_law_369 (by decide) ?_
      replace hf := Option.some.inj hf
      exact absurd (hf.trans hr0) (by decide)
    · replace hf := (if_pos c_16).symm.trans hf
      refine lv_aload_n hx hb dL_law_358 rfl (lv_at hl 3 rfl) ?_
      obtain ⟨x_17, hx_17, hf⟩ := Option.bind_eq_some_iff.mp hf
      have hPc := hP.sub (ws' := (wSg a cI cJ y_10.2.1 y_10.2.2.1 y_10.2.2.2.1 x_15.2 q_I0 q_T0)) [0, 1, 2, 3, 4, 5, 6, 7, 8, 9, 10, 11, 12, 13, 14, 15, 16, 17] rfl
      have hDc := hD.sub (ws' := (wSg a cI cJ y_10.2.1 y_10.2.2.1 y_10.2.2.2.1 x_15.2 q_I0 q_T0)) [0, 1, 2, 3, 4, 5, 6, 7, 8, 9, 10, 11, 12, 13, 14, 15, 16, 17] (by decide) rfl
      have hFc := va_free (wc := (wSg a cI cJ y_10.2.1 y_10.2.2.1 y_10.2.2.2.1 x_15.2 q_I0 q_T0)) hD hS hA [0, 1, 2, 3, 4, 5, 6, 7, 8, 9, 10, 11, 12, 13, 14, 15, 16, 17] rfl
      refine va_calli (va_runV (As := []) (rest := []) ⟨hx, hb, hml, hown, hts⟩ (c_X5_isSound l dC dI cI cJ a H.size y_10.2.1 y_10.2.2.1 y_10.2.2.2.1 x_15.2 q_I0 q_T0 x_17 hx_17) (cwV 0 hts gM_law_X5_isSound rfl rfl rfl (by decide +kernel) ⟨Nat.le_of_ble_eq_true rfl, Nat.le_of_ble_eq_true rfl⟩) ⟨q_Wblind, va_recv (hK.sub (tys' := q_ty cI cJ) [0, 1] rfl) hPc (ci := 5) (q0 := 0) rfl rfl, q_Wpre hPc (hK.sub (tys' := q_ty cI cJ) [0, 1] rfl) hn hDc⟩ rfl rfl hl.1 rfl (lv_room (Nat.le_of_ble_eq_true rfl)) dL_law_359 ⟨by show 5236 + 0 ≤ room_1.cells; omega, by show 200882 + 0 ≤ room_1.slots; omega⟩) hS (fun q _ h => hFc q h) hFc (fun r_9 u t H1 locs ht hvm hw hB hz1 hk1 hS => ?_)
      subst hw
      obtain ⟨hP1, hK1, hD1⟩ := hB
      rw [ht] at hP1
      obtain ⟨hP, hD⟩ := va_join (wr := ([(q_6, .inl (cI, ((3 : Int32).toNatClampNeg), .inl z_7.2.2))])) (w1 := (wSg a cI cJ y_10.2.1 y_10.2.2.1 y_10.2.2.2.1 x_17.2 q_I0 q_T0)) hP hD [0, 1, 2, 3, 4, 5, 6, 7, 8, 9, 10, 11, 12, 13, 14, 15, 16, 17] [18] rfl rfl (by decide) (by decide) hk1 hFc hP1 hD1
      generalize H1 = H at hP hS ⊢
      replace hP := hP.sub (ws' := (wSg a cI cJ y_10.2.1 y_10.2.2.1 y_10.2.2.2.1 x_17.2 q_I0 q_T0 ++ [(q_6, .inl (cI, ((3 : Int32).toNatClampNeg), .inl z_7.2.2))])) [1, 2, 3, 4, 5, 6, 7, 8, 9, 10, 11, 12, 13, 14, 15, 16, 17, 18, 0] rfl
      replace hD := hD.sub (ws' := (wSg a cI cJ y_10.2.1 y_10.2.2.1 y_10.2.2.2.1 x_17.2 q_I0 q_T0 ++ [(q_6, .inl (cI, ((3 : Int32).toNatClampNeg), .inl z_7.2.2))])) [1, 2, 3, 4, 5, 6, 7, 8, 9, 10, 11, 12, 13, 14, 15, 16, 17, 18, 0] (by decide) rfl
      have hP : va_P (dC, dI) vwCl (wSg a cI cJ y_10.2.1 y_10.2.2.1 y_10.2.2.2.1 x_17.2 q_I0 q_T0 ++ [(q_6, .inl (cI, ((3 : Int32).toNatClampNeg), .inl z_7.2.2))]) H := hP
      have hD : va_D A (wSg a cI cJ y_10.2.1 y_10.2.2.1 y_10.2.2.2.1 x_17.2 q_I0 q_T0 ++ [(q_6, .inl (cI, ((3 : Int32).toNatClampNeg), .inl z_7.2.2))]) := hD
      refine lv_if_eq (tgt := 369) hx hb dL_law_362 (by decide) (fun c_18 => ?_) (fun c_18 => ?_)
      · replace hf := (if_pos c_18).symm.trans hf
        refine lv_iconst (v := 0) hx hb dL_law_369 (by decide) ?_
        replace hf := Option.some.inj hf
        exact absurd (hf.trans hr0) (by decide)
      · replace hf := (if_neg c_18).symm.trans hf
        refine lv_iconst (v := 1) hx hb dL_law_365 (by decide) ?_
        refine lv_goto (tgt := 370) hx hb dL_law_366 (by decide) ?_
        replace hf := Option.some.inj hf
        refine va_forget (fun q hq => hAn _ (hS.2.2 q hq)) ?_
        refine W.widen (k := room_1.cells) (n := room_1.slots) (by omega) (by omega) ?_
        exact lw_ret hx hb hr hlocks dL_law_370
