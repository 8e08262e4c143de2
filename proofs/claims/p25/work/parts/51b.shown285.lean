set_option maxHeartbeats 8000000 in
set_option maxRecDepth 100000 in
theorem lt_isShown_285 {p : Program} {e : Env} {s : State} {m : MethodId} {below : List Frame} {meth : Method} {c : Code} {A : Nat → Prop} (l : Launch) (dC : Nat → ClassId) (dI : Nat → Nat → Nat) (cI cJ cZ : ClassId) (a : Nat → Nat) (adt : Nat) (r0 : Int32 × q_Fl × q_Bd × q_Pl) (x1 : Int32) (x2 : Int32) (K : q_Bk) (I : q_Wi) (T : q_Rt) (nt : Nat) (ft : q_IA) (x_1 : Int32 × q_Pl) (x_2 : Int32 × q_Pl) (x_3 : Int32) (x_4 : Int32) (z_11 : Int32 × q_Pl × q_IA) (z_12 : Int32 × q_IA) (z_13 : Int32 × q_Pl × q_IA) (x_14 : Int32 × q_Fl × q_Bd × q_Pl) (i11_244 : Int32) (i12_244 : Int32) (N_244 : q_Pl) (q_6 : Nat) (q_8 : Nat) (q_10 : Nat) (C0 : q_Sh p s m meth c A (dC, dI) (q_ty3 cI cJ cZ) [.ref (a 0), .int x1, .int x2, .ref adt].toArray) (kc_244 ks_244 : Nat) (hkc_244 : kc_244 + 19 ≤ 193) (hks_244 : ks_244 + 722 ≤ 7412)  : ∀ (nn : Nat) (i13_285 : Int32) (H : Heap) (locs : List Loc) (ls : Array Slot) (z_285 : ((Int32 × q_Fl × q_Bd × q_Pl) ⊕ (Int32))), lv_has ls 15 [(13, .int i13_285), (11, .int (i11_244 ||| (z_11.2.2 i12_244.toNatClampNeg))), (12, .int i12_244), (10, .ref q_10), (9, .ref q_8), (8, .ref q_6), (7, .int x_4), (6, .int x_3), (5, .int x_2.1), (4, .int x_1.1), (0, .ref (a 0)), (1, .int x1), (2, .int x2), (3, .ref adt)] → va_P (dC, dI) vwCl (wSg a cI cJ x_14.2.1 x_14.2.2.1 K N_244 I T ++ [(adt, .inl (cI, nt, .inl ft))] ++ [(q_6, .inl (cI, ((if (0 : Int32) < x_1.1 then x_1.1 else 0).toNatClampNeg), .inl z_11.2.2))] ++ [(q_8, .inl (cI, x2.toNatClampNeg, .inl z_12.2))] ++ [(q_10, .inl (cZ, x_4.toNatClampNeg, .inl z_13.2.2))]) H → va_D A (wSg a cI cJ x_14.2.1 x_14.2.2.1 K N_244 I T ++ [(adt, .inl (cI, nt, .inl ft))] ++ [(q_6, .inl (cI, ((if (0 : Int32) < x_1.1 then x_1.1 else 0).toNatClampNeg), .inl z_11.2.2))] ++ [(q_8, .inl (cI, x2.toNatClampNeg, .inl z_12.2))] ++ [(q_10, .inl (cZ, x_4.toNatClampNeg, .inl z_13.2.2))]) → va_S A s.heap H locs → fl_L_isShown_285 x2 x_1 z_11 z_12 x_14 i11_244 i12_244 N_244 nn i13_285 = some z_285 → (∀ r_ : Int32 × q_Fl × q_Bd × q_Pl, z_285 = .inl r_ → r_ = r0) → (∀ (y : Int32) (H : Heap) (locs : List Loc) (ls : Array Slot), z_285 = .inr y → lv_has ls 15 [(13, .int y), (11, .int (i11_244 ||| (z_11.2.2 i12_244.toNatClampNeg))), (12, .int i12_244), (10, .ref q_10), (9, .ref q_8), (8, .ref q_6), (7, .int x_4), (6, .int x_3), (5, .int x_2.1), (4, .int x_1.1), (0, .ref (a 0)), (1, .int x1), (2, .int x2), (3, .ref adt)] → va_P (dC, dI) vwCl (wSg a cI cJ x_14.2.1 x_14.2.2.1 K N_244 I T ++ [(adt, .inl (cI, nt, .inl ft))] ++ [(q_6, .inl (cI, ((if (0 : Int32) < x_1.1 then x_1.1 else 0).toNatClampNeg), .inl z_11.2.2))] ++ [(q_8, .inl (cI, x2.toNatClampNeg, .inl z_12.2))] ++ [(q_10, .inl (cZ, x_4.toNatClampNeg, .inl z_13.2.2))]) H → va_D A (wSg a cI cJ x_14.2.1 x_14.2.2.1 K N_244 I T ++ [(adt, .inl (cI, nt, .inl ft))] ++ [(q_6, .inl (cI, ((if (0 : Int32) < x_1.1 then x_1.1 else 0).toNatClampNeg), .inl z_11.2.2))] ++ [(q_8, .inl (cI, x2.toNatClampNeg, .inl z_12.2))] ++ [(q_10, .inl (cZ, x_4.toNatClampNeg, .inl z_13.2.2))]) → va_S A s.heap H locs → W p l e (headSpec wsM_isShown ({ frames := 7, cells := 193, slots := 7412, locals := 161 } : Room)).room s m [.ref (a 0), .int x1, .int x2, .ref adt].toArray below meth c H locs kc_244 ks_244 (MQ below (va_Qi (S := Unit) (fun r_ _ => r_ = r0.1) (fun _ => q_E (dC, dI) vwCl (wSg a cI cJ r0.2.1 r0.2.2.1 K r0.2.2.2 I T ++ [(adt, .inl (cI, nt, .inl ft))]) (q_ty3 cI cJ cZ) A) A) [.ref (a 0), .int x1, .int x2, .ref adt].toArray s 193 7412 A) (F0 m 333 ls [])) → W p l e (headSpec wsM_isShown ({ frames := 7, cells := 193, slots := 7412, locals := 161 } : Room)).room s m [.ref (a 0), .int x1, .int x2, .ref adt].toArray below meth c H locs kc_244 ks_244 (MQ below (va_Qi (S := Unit) (fun r_ _ => r_ = r0.1) (fun _ => q_E (dC, dI) vwCl (wSg a cI cJ r0.2.1 r0.2.2.1 K r0.2.2.2 I T ++ [(adt, .inl (cI, nt, .inl ft))]) (q_ty3 cI cJ cZ) A) A) [.ref (a 0), .int x1, .int x2, .ref adt].toArray s 193 7412 A) (F0 m 285 ls []) := by
  have C := C0
  obtain ⟨hx, hb, hr, hts, hown, hlocks, hA, hK, hn, hml⟩ := C0
  intro nn
  induction nn with
  | zero =>
    intro i13_285 H locs ls z_285 hl hP hD hS hf hret_285 hex_285
    rw [fl_L_isShown_285] at hf
    cases hf
  | succ nn ih =>
    intro i13_285 H locs ls z_285 hl hP hD hS hf hret_285 hex_285
    rw [fl_L_isShown_285] at hf
    refine lv_iload hx hb dL_isShown_285 (lv_at hl 0 rfl) ?_
    refine lv_iload_n hx hb dL_isShown_287 rfl (lv_at hl 12 rfl) ?_
    refine lv_icmp_ge (tgt := 333) hx hb dL_isShown_288 (by decide) (fun c_285001 => ?_) (fun c_285001 => ?_)
    · replace hf := (if_pos c_285001).symm.trans hf
      exact hex_285 i13_285 H locs ls (Option.some.inj hf).symm (lv_sub hl [0, 1, 2, 3, 4, 5, 6, 7, 8, 9, 10, 11, 12, 13] rfl) hP hD hS
    · replace hf := (if_neg c_285001).symm.trans hf
      refine lv_iload hx hb dL_isShown_291 (lv_at hl 2 rfl) ?_
      refine lv_iload hx hb dL_isShown_293 (lv_at hl 9 rfl) ?_
      refine lv_iconst (v := 1) hx hb dL_isShown_295 (by decide) ?_
      refine lv_isub hx hb dL_isShown_296 ?_
      refine lv_icmp_ne (tgt := 333) hx hb dL_isShown_297 (by decide) (fun c_285002 => ?_) (fun c_285002 => ?_)
      · replace hf := (if_neg c_285002).symm.trans hf
        exact hex_285 i13_285 H locs ls (Option.some.inj hf).symm (lv_sub hl [0, 1, 2, 3, 4, 5, 6, 7, 8, 9, 10, 11, 12, 13] rfl) hP hD hS
      · replace hf := (if_pos c_285002).symm.trans hf
        refine lv_iload hx hb dL_isShown_300 (lv_at hl 1 rfl) ?_
        refine lv_iload hx hb dL_isShown_302 (lv_at hl 0 rfl) ?_
        refine lv_ishr hx hb dL_isShown_304 ?_
        refine lv_iconst (v := 1) hx hb dL_isShown_305 (by decide) ?_
        refine lv_iand hx hb dL_isShown_306 ?_
        refine lv_if_ne (tgt := 327) hx hb dL_isShown_307 (by decide) (fun c_285003 => ?_) (fun c_285003 => ?_)
        · replace hf := (if_neg c_285003).symm.trans hf
          refine lv_iinc (v := i13_285 + 1) (lv' := [(13, .int (i13_285 + 1)), (11, .int (i11_244 ||| (z_11.2.2 i12_244.toNatClampNeg))), (12, .int i12_244), (10, .ref q_10), (9, .ref q_8), (8, .ref q_6), (7, .int x_4), (6, .int x_3), (5, .int x_2.1), (4, .int x_1.1), (0, .ref (a 0)), (1, .int x1), (2, .int x2), (3, .ref adt)]) hx hb dL_isShown_327 hl (k := 0) rfl rfl (by decide) rfl (fun ls hl => ?_)
          refine lv_goto (tgt := 285) hx hb dL_isShown_330 (by decide) ?_
          exact ih (i13_285 + 1) H locs ls _ (lv_sub hl [0, 1, 2, 3, 4, 5, 6, 7, 8, 9, 10, 11, 12, 13] rfl) hP hD hS hf hret_285 hex_285
        · replace hf := (if_pos c_285003).symm.trans hf
          refine lv_aload_n hx hb dL_isShown_310 rfl (lv_at hl 10 rfl) ?_
          refine lv_iload hx hb dL_isShown_311 (lv_at hl 0 rfl) ?_
          refine lv_iconst (v := 0) hx hb dL_isShown_313 (by decide) ?_
          obtain ⟨x_285004, hx_285004, hf⟩ := Option.bind_eq_some_iff.mp hf
          refine q_rV (As := [.int i13_285, .int 0]) (rest := []) ⟨hx, hb, hml, hown, hts⟩ (c_X5_column l dC dI cI cJ a x_14.2.1 x_14.2.2.1 K N_244 I T i13_285 0 x_285004 hx_285004) (cwV 2 hts gM_isShown_X5_column rfl rfl rfl (by decide +kernel) ⟨Nat.le_of_ble_eq_true rfl, Nat.le_of_ble_eq_true rfl⟩) (hK.sub (tys' := q_ty cI cJ) [0, 1] rfl) hn (hP.sub (ws' := (wSg a cI cJ x_14.2.1 x_14.2.2.1 K N_244 I T)) [0, 1, 2, 3, 4, 5, 6, 7, 8, 9, 10, 11, 12, 13, 14, 15, 16, 17] rfl) (ci := 5) rfl rfl rfl hl.1 rfl (Nat.le_of_ble_eq_true rfl) dL_isShown_314 ⟨by show kc_244 ≤ 193; omega, by show ks_244 ≤ 7412; omega⟩ ?_
          refine lv_aload hx hb dL_isShown_317 (lv_at hl 4 rfl) ?_
          refine lv_iload hx hb dL_isShown_319 (lv_at hl 0 rfl) ?_
          by_cases nc_285005 : ¬ q_ix i13_285 x2.toNatClampNeg = true
          · replace hf := (if_neg nc_285005).symm.trans hf
            cases hf
          have c_285005 := Classical.not_not.mp nc_285005
          replace hf := (if_pos c_285005).symm.trans hf
          refine va_iald hx hb hK hP 20 0 rfl rfl (q_ix_in c_285005) dL_isShown_321 ?_
          refine lv_icmp_eq (tgt := 327) hx hb dL_isShown_322 (by decide) (fun c_285006 => ?_) (fun c_285006 => ?_)
          · replace hf := (if_pos c_285006).symm.trans hf
            refine lv_iinc (v := i13_285 + 1) (lv' := [(13, .int (i13_285 + 1)), (11, .int (i11_244 ||| (z_11.2.2 i12_244.toNatClampNeg))), (12, .int i12_244), (10, .ref q_10), (9, .ref q_8), (8, .ref q_6), (7, .int x_4), (6, .int x_3), (5, .int x_2.1), (4, .int x_1.1), (0, .ref (a 0)), (1, .int x1), (2, .int x2), (3, .ref adt)]) hx hb dL_isShown_327 hl (k := 0) rfl rfl (by decide) rfl (fun ls hl => ?_)
            refine lv_goto (tgt := 285) hx hb dL_isShown_330 (by decide) ?_
            exact ih (i13_285 + 1) H locs ls _ (lv_sub hl [0, 1, 2, 3, 4, 5, 6, 7, 8, 9, 10, 11, 12, 13] rfl) hP hD hS hf hret_285 hex_285
          · replace hf := (if_neg c_285006).symm.trans hf
            refine lv_iconst (v := 0) hx hb dL_isShown_325 (by decide) ?_
            replace hf := hret_285 (0, x_14.2.1, x_14.2.2.1, N_244) (Option.some.inj hf).symm
            subst hf
            have hP9 := hP.sub (ws' := (wSg a cI cJ x_14.2.1 x_14.2.2.1 K N_244 I T ++ [(adt, .inl (cI, nt, .inl ft))])) [0, 1, 2, 3, 4, 5, 6, 7, 8, 9, 10, 11, 12, 13, 14, 15, 16, 17, 18] rfl
            have hD9 := hD.sub (ws' := (wSg a cI cJ x_14.2.1 x_14.2.2.1 K N_244 I T ++ [(adt, .inl (cI, nt, .inl ft))])) [0, 1, 2, 3, 4, 5, 6, 7, 8, 9, 10, 11, 12, 13, 14, 15, 16, 17, 18] (by decide) rfl
            refine W.widen (k := 193) (n := 7412) (by omega) (by omega) ?_
            exact W.zret (v := 0) (ty := .boolean) hx hb hr rfl (fun t ht hW => ⟨⟨0, (), rfl, rfl, ⟨by rw [ht]; exact hP9, va_K.moved hW.alike hK, hD9⟩⟩, hS.F ht⟩) hS.2.2 dL_isShown_326
set_option maxHeartbeats 8000000 in
set_option maxRecDepth 100000 in
theorem lt_isShown_353 {p : Program} {e : Env} {s : State} {m : MethodId} {below : List Frame} {meth : Method} {c : Code} {A : Nat → Prop} (l : Launch) (dC : Nat → ClassId) (dI : Nat → Nat → Nat) (cI cJ cZ : ClassId) (a : Nat → Nat) (adt : Nat) (r0 : Int32 × q_Fl × q_Bd × q_Pl) (x1 : Int32) (x2 : Int32) (K : q_Bk) (I : q_Wi) (T : q_Rt) (nt : Nat) (ft : q_IA) (x_1 : Int32 × q_Pl) (x_2 : Int32 × q_Pl) (x_3 : Int32) (x_4 : Int32) (z_11 : Int32 × q_Pl × q_IA) (z_12 : Int32 × q_IA) (z_13 : Int32 × q_Pl × q_IA) (x_14 : Int32 × q_Fl × q_Bd × q_Pl) (i11_244 : Int32) (i12_244 : Int32) (N_244 : q_Pl) (q_6 : Nat) (q_8 : Nat) (q_10 : Nat) (q_244009 : Nat) (C0 : q_Sh p s m meth c A (dC, dI) (q_ty3 cI cJ cZ) [.ref (a 0), .int x1, .int x2, .ref adt].toArray) (kc_244 ks_244 : Nat) (hkc_244 : kc_244 + 19 ≤ 193) (hks_244 : ks_244 + 722 ≤ 7412)  : ∀ (nn : Nat) (i14_353 : Int32) (A_q_244009_353 : q_IA) (H : Heap) (locs : List Loc) (ls : Array Slot) (z_353 : (Int32 × q_IA)), lv_has ls 15 [(14, .int i14_353), (13, .ref q_244009), (11, .int (i11_244 ||| (z_11.2.2 i12_244.toNatClampNeg))), (12, .int i12_244), (10, .ref q_10), (9, .ref q_8), (8, .ref q_6), (7, .int x_4), (6, .int x_3), (5, .int x_2.1), (4, .int x_1.1), (0, .ref (a 0)), (1, .int x1), (2, .int x2), (3, .ref adt)] → va_P (dC, dI) vwCl (wSg a cI cJ x_14.2.1 x_14.2.2.1 K N_244 I T ++ [(adt, .inl (cI, nt, .inl ft))] ++ [(q_6, .inl (cI, ((if (0 : Int32) < x_1.1 then x_1.1 else 0).toNatClampNeg), .inl z_11.2.2))] ++ [(q_8, .inl (cI, x2.toNatClampNeg, .inl z_12.2))] ++ [(q_10, .inl (cZ, x_4.toNatClampNeg, .inl z_13.2.2))] ++ [(q_244009, .inl (cI, x2.toNatClampNeg, .inl A_q_244009_353))]) H → va_D A (wSg a cI cJ x_14.2.1 x_14.2.2.1 K N_244 I T ++ [(adt, .inl (cI, nt, .inl ft))] ++ [(q_6, .inl (cI, ((if (0 : Int32) < x_1.1 then x_1.1 else 0).toNatClampNeg), .inl z_11.2.2))] ++ [(q_8, .inl (cI, x2.toNatClampNeg, .inl z_12.2))] ++ [(q_10, .inl (cZ, x_4.toNatClampNeg, .inl z_13.2.2))] ++ [(q_244009, .inl (cI, x2.toNatClampNeg, .inl A_q_244009_353))]) → va_S A s.heap H locs → fl_L_isShown_353 x2 z_11 z_12 x_14 i11_244 i12_244 nn i14_353 A_q_244009_353 = some z_353 → (∀ (H : Heap) (locs : List Loc) (ls : Array Slot), lv_has ls 15 [(14, .int z_353.1), (13, .ref q_244009), (11, .int (i11_244 ||| (z_11.2.2 i12_244.toNatClampNeg))), (12, .int i12_244), (10, .ref q_10), (9, .ref q_8), (8, .ref q_6), (7, .int x_4), (6, .int x_3), (5, .int x_2.1), (4, .int x_1.1), (0, .ref (a 0)), (1, .int x1), (2, .int x2), (3, .ref adt)] → va_P (dC, dI) vwCl (wSg a cI cJ x_14.2.1 x_14.2.2.1 K N_244 I T ++ [(adt, .inl (cI, nt, .inl ft))] ++ [(q_6, .inl (cI, ((if (0 : Int32) < x_1.1 then x_1.1 else 0).toNatClampNeg), .inl z_11.2.2))] ++ [(q_8, .inl (cI, x2.toNatClampNeg, .inl z_12.2))] ++ [(q_10, .inl (cZ, x_4.toNatClampNeg, .inl z_13.2.2))] ++ [(q_244009, .inl (cI, x2.toNatClampNeg, .inl z_353.2))]) H → va_D A (wSg a cI cJ x_14.2.1 x_14.2.2.1 K N_244 I T ++ [(adt, .inl (cI, nt, .inl ft))] ++ [(q_6, .inl (cI, ((if (0 : Int32) < x_1.1 then x_1.1 else 0).toNatClampNeg), .inl z_11.2.2))] ++ [(q_8, .inl (cI, x2.toNatClampNeg, .inl z_12.2))] ++ [(q_10, .inl (cZ, x_4.toNatClampNeg, .inl z_13.2.2))] ++ [(q_244009, .inl (cI, x2.toNatClampNeg, .inl z_353.2))]) → va_S A s.heap H locs → W p l e (headSpec wsM_isShown ({ frames := 7, cells := 193, slots := 7412, locals := 161 } : Room)).room s m [.ref (a 0), .int x1, .int x2, .ref adt].toArray below meth c H locs (kc_244 + 1) (ks_244 + 64) (MQ below (va_Qi (S := Unit) (fun r_ _ => r_ = r0.1) (fun _ => q_E (dC, dI) vwCl (wSg a cI cJ r0.2.1 r0.2.2.1 K r0.2.2.2 I T ++ [(adt, .inl (cI, nt, .inl ft))]) (q_ty3 cI cJ cZ) A) A) [.ref (a 0), .int x1, .int x2, .ref adt].toArray s 193 7412 A) (F0 m 396 ls [])) → W p l e (headSpec wsM_isShown ({ frames := 7, cells := 193, slots := 7412, locals := 161 } : Room)).room s m [.ref (a 0), .int x1, .int x2, .ref adt].toArray below meth c H locs (kc_244 + 1) (ks_244 + 64) (MQ below (va_Qi (S := Unit) (fun r_ _ => r_ = r0.1) (fun _ => q_E (dC, dI) vwCl (wSg a cI cJ r0.2.1 r0.2.2.1 K r0.2.2.2 I T ++ [(adt, .inl (cI, nt, .inl ft))]) (q_ty3 cI cJ cZ) A) A) [.ref (a 0), .int x1, .int x2, .ref adt].toArray s 193 7412 A) (F0 m 353 ls []) := by
  have C := C0
  obtain ⟨hx, hb, hr, hts, hown, hlocks, hA, hK, hn, hml⟩ := C0
  intro nn
  induction nn with
  | zero =>
    intro i14_353 A_q_244009_353 H locs ls z_353 hl hP hD hS hf hex_353
    rw [fl_L_isShown_353] at hf
    cases hf
  | succ nn ih =>
    intro i14_353 A_q_244009_353 H locs ls z_353 hl hP hD hS hf hex_353
    rw [fl_L_isShown_353] at hf
    refine lv_iload hx hb dL_isShown_353 (lv_at hl 0 rfl) ?_
    refine lv_iload_n hx hb dL_isShown_355 rfl (lv_at hl 13 rfl) ?_
    refine lv_icmp_ge (tgt := 396) hx hb dL_isShown_356 (by decide) (fun c_353001 => ?_) (fun c_353001 => ?_)
    · replace hf := (if_pos c_353001).symm.trans hf
      replace hf := Option.some.inj hf
      subst hf
      exact hex_353 H locs ls (lv_sub hl [0, 1, 2, 3, 4, 5, 6, 7, 8, 9, 10, 11, 12, 13, 14] rfl) hP hD hS
    · replace hf := (if_neg c_353001).symm.trans hf
      refine lv_aload hx hb dL_isShown_359 (lv_at hl 1 rfl) ?_
      refine lv_iload hx hb dL_isShown_361 (lv_at hl 0 rfl) ?_
      refine lv_iload hx hb dL_isShown_363 (lv_at hl 2 rfl) ?_
      refine lv_iload hx hb dL_isShown_365 (lv_at hl 0 rfl) ?_
      refine lv_ishr hx hb dL_isShown_367 ?_
      refine lv_iconst (v := 1) hx hb dL_isShown_368 (by decide) ?_
      refine lv_iand hx hb dL_isShown_369 ?_
      refine lv_iconst (v := 1) hx hb dL_isShown_370 (by decide) ?_
      refine lv_icmp_ne (tgt := 384) hx hb dL_isShown_371 (by decide) (fun c_353002 => ?_) (fun c_353002 => ?_)
      · replace hf := (if_neg c_353002).symm.trans hf
        refine lv_aload hx hb dL_isShown_384 (lv_at hl 5 rfl) ?_
        refine lv_iload hx hb dL_isShown_386 (lv_at hl 0 rfl) ?_
        by_cases nc_353003 : ¬ q_ix i14_353 x2.toNatClampNeg = true
        · replace hf := (if_neg nc_353003).symm.trans hf
          cases hf
        have c_353003 := Classical.not_not.mp nc_353003
        replace hf := (if_pos c_353003).symm.trans hf
        refine va_iald hx hb hK hP 20 0 rfl rfl (q_ix_in c_353003) dL_isShown_388 ?_
        refine va_iast hx hb hK hP hD hS 22 0 rfl rfl (q_ix_in c_353003) dL_isShown_389 (fun H locs hP hD hS => ?_)
        have hP : va_P (dC, dI) vwCl (wSg a cI cJ x_14.2.1 x_14.2.2.1 K N_244 I T ++ [(adt, .inl (cI, nt, .inl ft))] ++ [(q_6, .inl (cI, ((if (0 : Int32) < x_1.1 then x_1.1 else 0).toNatClampNeg), .inl z_11.2.2))] ++ [(q_8, .inl (cI, x2.toNatClampNeg, .inl z_12.2))] ++ [(q_10, .inl (cZ, x_4.toNatClampNeg, .inl z_13.2.2))] ++ [(q_244009, .inl (cI, x2.toNatClampNeg, .inl (upd A_q_244009_353 i14_353.toNatClampNeg (z_12.2 i14_353.toNatClampNeg))))]) H := hP
        have hD : va_D A (wSg a cI cJ x_14.2.1 x_14.2.2.1 K N_244 I T ++ [(adt, .inl (cI, nt, .inl ft))] ++ [(q_6, .inl (cI, ((if (0 : Int32) < x_1.1 then x_1.1 else 0).toNatClampNeg), .inl z_11.2.2))] ++ [(q_8, .inl (cI, x2.toNatClampNeg, .inl z_12.2))] ++ [(q_10, .inl (cZ, x_4.toNatClampNeg, .inl z_13.2.2))] ++ [(q_244009, .inl (cI, x2.toNatClampNeg, .inl (upd A_q_244009_353 i14_353.toNatClampNeg (z_12.2 i14_353.toNatClampNeg))))]) := hD
        refine lv_iinc (v := i14_353 + 1) (lv' := [(14, .int (i14_353 + 1)), (13, .ref q_244009), (11, .int (i11_244 ||| (z_11.2.2 i12_244.toNatClampNeg))), (12, .int i12_244), (10, .ref q_10), (9, .ref q_8), (8, .ref q_6), (7, .int x_4), (6, .int x_3), (5, .int x_2.1), (4, .int x_1.1), (0, .ref (a 0)), (1, .int x1), (2, .int x2), (3, .ref adt)]) hx hb dL_isShown_390 hl (k := 0) rfl rfl (by decide) rfl (fun ls hl => ?_)
        refine lv_goto (tgt := 353) hx hb dL_isShown_393 (by decide) ?_
        exact ih (i14_353 + 1) (upd A_q_244009_353 i14_353.toNatClampNeg (z_12.2 i14_353.toNatClampNeg)) H locs ls _ (lv_sub hl [0, 1, 2, 3, 4, 5, 6, 7, 8, 9, 10, 11, 12, 13, 14] rfl) hP hD hS hf hex_353
      · replace hf := (if_pos c_353002).symm.trans hf
        refine lv_aload_n hx hb dL_isShown_374 rfl (lv_at hl 11 rfl) ?_
        refine lv_iload hx hb dL_isShown_375 (lv_at hl 0 rfl) ?_
        refine lv_iconst (v := 0) hx hb dL_isShown_377 (by decide) ?_
        obtain ⟨x_353004, hx_353004, hf⟩ := Option.bind_eq_some_iff.mp hf
        refine q_rV (As := [.int i14_353, .int 0]) (rest := [.int i14_353, .ref q_244009]) ⟨hx, hb, hml, hown, hts⟩ (c_X5_column l dC dI cI cJ a x_14.2.1 x_14.2.2.1 K N_244 I T i14_353 0 x_353004 hx_353004) (cwV 2 hts gM_isShown_X5_column rfl rfl rfl (by decide +kernel) ⟨Nat.le_of_ble_eq_true rfl, Nat.le_of_ble_eq_true rfl⟩) (hK.sub (tys' := q_ty cI cJ) [0, 1] rfl) hn (hP.sub (ws' := (wSg a cI cJ x_14.2.1 x_14.2.2.1 K N_244 I T)) [0, 1, 2, 3, 4, 5, 6, 7, 8, 9, 10, 11, 12, 13, 14, 15, 16, 17] rfl) (ci := 5) rfl rfl rfl hl.1 rfl (Nat.le_of_ble_eq_true rfl) dL_isShown_378 ⟨by show kc_244 + 1 ≤ 193; omega, by show ks_244 + 64 ≤ 7412; omega⟩ ?_
        refine lv_goto (tgt := 389) hx hb dL_isShown_381 (by decide) ?_
        by_cases nc_353005 : ¬ q_ix i14_353 x2.toNatClampNeg = true
        · replace hf := (if_neg nc_353005).symm.trans hf
          cases hf
        have c_353005 := Classical.not_not.mp nc_353005
        replace hf := (if_pos c_353005).symm.trans hf
        refine va_iast hx hb hK hP hD hS 22 0 rfl rfl (q_ix_in c_353005) dL_isShown_389 (fun H locs hP hD hS => ?_)
        have hP : va_P (dC, dI) vwCl (wSg a cI cJ x_14.2.1 x_14.2.2.1 K N_244 I T ++ [(adt, .inl (cI, nt, .inl ft))] ++ [(q_6, .inl (cI, ((if (0 : Int32) < x_1.1 then x_1.1 else 0).toNatClampNeg), .inl z_11.2.2))] ++ [(q_8, .inl (cI, x2.toNatClampNeg, .inl z_12.2))] ++ [(q_10, .inl (cZ, x_4.toNatClampNeg, .inl z_13.2.2))] ++ [(q_244009, .inl (cI, x2.toNatClampNeg, .inl (upd A_q_244009_353 i14_353.toNatClampNeg x_353004)))]) H := hP
        have hD : va_D A (wSg a cI cJ x_14.2.1 x_14.2.2.1 K N_244 I T ++ [(adt, .inl (cI, nt, .inl ft))] ++ [(q_6, .inl (cI, ((if (0 : Int32) < x_1.1 then x_1.1 else 0).toNatClampNeg), .inl z_11.2.2))] ++ [(q_8, .inl (cI, x2.toNatClampNeg, .inl z_12.2))] ++ [(q_10, .inl (cZ, x_4.toNatClampNeg, .inl z_13.2.2))] ++ [(q_244009, .inl (cI, x2.toNatClampNeg, .inl (upd A_q_244009_353 i14_353.toNatClampNeg x_353004)))]) := hD
        refine lv_iinc (v := i14_353 + 1) (lv' := [(14, .int (i14_353 + 1)), (13, .ref q_244009), (11, .int (i11_244 ||| (z_11.2.2 i12_244.toNatClampNeg))), (12, .int i12_244), (10, .ref q_10), (9, .ref q_8), (8, .ref q_6), (7, .int x_4), (6, .int x_3), (5, .int x_2.1), (4, .int x_1.1), (0, .ref (a 0)), (1, .int x1), (2, .int x2), (3, .ref adt)]) hx hb dL_isShown_390 hl (k := 0) rfl rfl (by decide) rfl (fun ls hl => ?_)
        refine lv_goto (tgt := 353) hx hb dL_isShown_393 (by decide) ?_
        exact ih (i14_353 + 1) (upd A_q_244009_353 i14_353.toNatClampNeg x_353004) H locs ls _ (lv_sub hl [0, 1, 2, 3, 4, 5, 6, 7, 8, 9, 10, 11, 12, 13, 14] rfl) hP hD hS hf hex_353
