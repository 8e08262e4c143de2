set_option maxHeartbeats 8000000 in
set_option maxRecDepth 100000 in
theorem lt_isShown_244 {p : Program} {e : Env} {s : State} {m : MethodId} {below : List Frame} {meth : Method} {c : Code} {A : Nat → Prop} (l : Launch) (dC : Nat → ClassId) (dI : Nat → Nat → Nat) (cI cJ cZ : ClassId) (a : Nat → Nat) (adt : Nat) (r0 : Int32 × q_Fl × q_Bd × q_Pl) (x1 : Int32) (x2 : Int32) (K : q_Bk) (I : q_Wi) (T : q_Rt) (nt : Nat) (ft : q_IA) (x_1 : Int32 × q_Pl) (x_2 : Int32 × q_Pl) (x_3 : Int32) (x_4 : Int32) (z_11 : Int32 × q_Pl × q_IA) (z_12 : Int32 × q_IA) (z_13 : Int32 × q_Pl × q_IA) (x_14 : Int32 × q_Fl × q_Bd × q_Pl) (q_6 : Nat) (q_8 : Nat) (q_10 : Nat) (C0 : q_Sh p s m meth c A (dC, dI) (q_ty3 cI cJ cZ) [.ref (a 0), .int x1, .int x2, .ref adt].toArray)   : ∀ (nn : Nat) (i11_244 : Int32) (i12_244 : Int32) (N_244 : q_Pl) (kc_244 ks_244 : Nat) (H : Heap) (locs : List Loc) (ls : Array Slot) (z_244 : ((Int32 × q_Fl × q_Bd × q_Pl) ⊕ (Int32 × Int32 × q_Pl))), lv_has ls 15 [(12, .int i12_244), (11, .int i11_244), (10, .ref q_10), (9, .ref q_8), (8, .ref q_6), (7, .int x_4), (6, .int x_3), (5, .int x_2.1), (4, .int x_1.1), (0, .ref (a 0)), (1, .int x1), (2, .int x2), (3, .ref adt)] → kc_244 + nn * 19 ≤ 193 → ks_244 + nn * 722 ≤ 7412 → va_P (dC, dI) vwCl (wSg a cI cJ x_14.2.1 x_14.2.2.1 K N_244 I T ++ [(adt, .inl (cI, nt, .inl ft))] ++ [(q_6, .inl (cI, ((if (0 : Int32) < x_1.1 then x_1.1 else 0).toNatClampNeg), .inl z_11.2.2))] ++ [(q_8, .inl (cI, x2.toNatClampNeg, .inl z_12.2))] ++ [(q_10, .inl (cZ, x_4.toNatClampNeg, .inl z_13.2.2))]) H → va_D A (wSg a cI cJ x_14.2.1 x_14.2.2.1 K N_244 I T ++ [(adt, .inl (cI, nt, .inl ft))] ++ [(q_6, .inl (cI, ((if (0 : Int32) < x_1.1 then x_1.1 else 0).toNatClampNeg), .inl z_11.2.2))] ++ [(q_8, .inl (cI, x2.toNatClampNeg, .inl z_12.2))] ++ [(q_10, .inl (cZ, x_4.toNatClampNeg, .inl z_13.2.2))]) → va_S A s.heap H locs → fl_L_isShown_244 x2 K I T nt ft x_1 x_4 z_11 z_12 z_13 x_14 nn i11_244 i12_244 N_244 = some z_244 → (∀ r_ : Int32 × q_Fl × q_Bd × q_Pl, z_244 = .inl r_ → r_ = r0) → (∀ (y : Int32 × Int32 × q_Pl) (H : Heap) (locs : List Loc) (ls : Array Slot), z_244 = .inr y → lv_has ls 15 [(12, .int y.2.1), (11, .int y.1), (10, .ref q_10), (9, .ref q_8), (8, .ref q_6), (7, .int x_4), (6, .int x_3), (5, .int x_2.1), (4, .int x_1.1), (0, .ref (a 0)), (1, .int x1), (2, .int x2), (3, .ref adt)] → va_P (dC, dI) vwCl (wSg a cI cJ x_14.2.1 x_14.2.2.1 K y.2.2 I T ++ [(adt, .inl (cI, nt, .inl ft))] ++ [(q_6, .inl (cI, ((if (0 : Int32) < x_1.1 then x_1.1 else 0).toNatClampNeg), .inl z_11.2.2))] ++ [(q_8, .inl (cI, x2.toNatClampNeg, .inl z_12.2))] ++ [(q_10, .inl (cZ, x_4.toNatClampNeg, .inl z_13.2.2))]) H → va_D A (wSg a cI cJ x_14.2.1 x_14.2.2.1 K y.2.2 I T ++ [(adt, .inl (cI, nt, .inl ft))] ++ [(q_6, .inl (cI, ((if (0 : Int32) < x_1.1 then x_1.1 else 0).toNatClampNeg), .inl z_11.2.2))] ++ [(q_8, .inl (cI, x2.toNatClampNeg, .inl z_12.2))] ++ [(q_10, .inl (cZ, x_4.toNatClampNeg, .inl z_13.2.2))]) → va_S A s.heap H locs → W p l e (headSpec wsM_isShown ({ frames := 7, cells := 193, slots := 7412, locals := 161 } : Room)).room s m [.ref (a 0), .int x1, .int x2, .ref adt].toArray below meth c H locs 193 7412 (MQ below (va_Qi (S := Unit) (fun r_ _ => r_ = r0.1) (fun _ => q_E (dC, dI) vwCl (wSg a cI cJ r0.2.1 r0.2.2.1 K r0.2.2.2 I T ++ [(adt, .inl (cI, nt, .inl ft))]) (q_ty3 cI cJ cZ) A) A) [.ref (a 0), .int x1, .int x2, .ref adt].toArray s 193 7412 A) (F0 m 416 ls [])) → W p l e (headSpec wsM_isShown ({ frames := 7, cells := 193, slots := 7412, locals := 161 } : Room)).room s m [.ref (a 0), .int x1, .int x2, .ref adt].toArray below meth c H locs kc_244 ks_244 (MQ below (va_Qi (S := Unit) (fun r_ _ => r_ = r0.1) (fun _ => q_E (dC, dI) vwCl (wSg a cI cJ r0.2.1 r0.2.2.1 K r0.2.2.2 I T ++ [(adt, .inl (cI, nt, .inl ft))]) (q_ty3 cI cJ cZ) A) A) [.ref (a 0), .int x1, .int x2, .ref adt].toArray s 193 7412 A) (F0 m 244 ls []) := by
  have C := C0
  obtain ⟨hx, hb, hr, hts, hown, hlocks, hA, hK, hn, hml⟩ := C0
  intro nn
  induction nn with
  | zero =>
    intro i11_244 i12_244 N_244 kc_244 ks_244 H locs ls z_244 hl hkc_244 hks_244 hP hD hS hf hret_244 hex_244
    rw [fl_L_isShown_244] at hf
    cases hf
  | succ nn ih =>
    intro i11_244 i12_244 N_244 kc_244 ks_244 H locs ls z_244 hl hkc_244 hks_244 hP hD hS hf hret_244 hex_244
    rw [fl_L_isShown_244] at hf
    refine lv_iload hx hb dL_isShown_244 (lv_at hl 0 rfl) ?_
    refine lv_iload hx hb dL_isShown_246 (lv_at hl 8 rfl) ?_
    refine lv_icmp_ge (tgt := 416) hx hb dL_isShown_248 (by decide) (fun c_244001 => ?_) (fun c_244001 => ?_)
    · replace hf := (if_pos c_244001).symm.trans hf
      refine W.widen (k := 193) (n := 7412) (by omega) (by omega) ?_
      exact hex_244 (i11_244, i12_244, N_244) H locs ls (Option.some.inj hf).symm (lv_sub hl [0, 1, 2, 3, 4, 5, 6, 7, 8, 9, 10, 11, 12] rfl) hP hD hS
    · replace hf := (if_neg c_244001).symm.trans hf
      refine lv_aload hx hb dL_isShown_251 (lv_at hl 4 rfl) ?_
      refine lv_iload hx hb dL_isShown_253 (lv_at hl 0 rfl) ?_
      by_cases nc_244002 : ¬ q_ix i12_244 (if (0 : Int32) < x_1.1 then x_1.1 else 0).toNatClampNeg = true
      · replace hf := (if_neg nc_244002).symm.trans hf
        cases hf
      have c_244002 := Classical.not_not.mp nc_244002
      replace hf := (if_pos c_244002).symm.trans hf
      refine va_iald hx hb hK hP 19 0 rfl rfl (q_ix_in c_244002) dL_isShown_255 ?_
      refine lv_if_le (tgt := 270) hx hb dL_isShown_256 (by decide) (fun c_244003 => ?_) (fun c_244003 => ?_)
      · replace hf := (if_pos c_244003).symm.trans hf
        refine lv_iconst (v := 0) hx hb dL_isShown_270 (by decide) ?_
        replace hf := hret_244 (0, x_14.2.1, x_14.2.2.1, N_244) (Option.some.inj hf).symm
        subst hf
        have hP9 := hP.sub (ws' := (wSg a cI cJ x_14.2.1 x_14.2.2.1 K N_244 I T ++ [(adt, .inl (cI, nt, .inl ft))])) [0, 1, 2, 3, 4, 5, 6, 7, 8, 9, 10, 11, 12, 13, 14, 15, 16, 17, 18] rfl
        have hD9 := hD.sub (ws' := (wSg a cI cJ x_14.2.1 x_14.2.2.1 K N_244 I T ++ [(adt, .inl (cI, nt, .inl ft))])) [0, 1, 2, 3, 4, 5, 6, 7, 8, 9, 10, 11, 12, 13, 14, 15, 16, 17, 18] (by decide) rfl
        refine W.widen (k := 193) (n := 7412) (by omega) (by omega) ?_
        exact W.zret (v := 0) (ty := .boolean) hx hb hr rfl (fun t ht hW => ⟨⟨0, (), rfl, rfl, ⟨by rw [ht]; exact hP9, va_K.moved hW.alike hK, hD9⟩⟩, hS.F ht⟩) hS.2.2 dL_isShown_271
      · replace hf := (if_neg c_244003).symm.trans hf
        refine lv_aload hx hb dL_isShown_259 (lv_at hl 4 rfl) ?_
        refine lv_iload hx hb dL_isShown_261 (lv_at hl 0 rfl) ?_
        refine va_iald hx hb hK hP 19 0 rfl rfl (q_ix_in c_244002) dL_isShown_263 ?_
        refine lv_iload hx hb dL_isShown_264 (lv_at hl 1 rfl) ?_
        refine lv_iand hx hb dL_isShown_266 ?_
        refine lv_if_eq (tgt := 272) hx hb dL_isShown_267 (by decide) (fun c_244004 => ?_) (fun c_244004 => ?_)
        · replace hf := (if_pos c_244004).symm.trans hf
          refine lv_iload hx hb dL_isShown_272 (lv_at hl 1 rfl) ?_
          refine lv_aload hx hb dL_isShown_274 (lv_at hl 4 rfl) ?_
          refine lv_iload hx hb dL_isShown_276 (lv_at hl 0 rfl) ?_
          refine va_iald hx hb hK hP 19 0 rfl rfl (q_ix_in c_244002) dL_isShown_278 ?_
          refine lv_ior hx hb dL_isShown_279 ?_
          refine lv_istore (lv' := [(11, .int (i11_244 ||| (z_11.2.2 i12_244.toNatClampNeg))), (12, .int i12_244), (10, .ref q_10), (9, .ref q_8), (8, .ref q_6), (7, .int x_4), (6, .int x_3), (5, .int x_2.1), (4, .int x_1.1), (0, .ref (a 0)), (1, .int x1), (2, .int x2), (3, .ref adt)]) hx hb dL_isShown_280 hl (by decide) rfl (fun ls hl => ?_)
          refine lv_iconst (v := 0) hx hb dL_isShown_282 (by decide) ?_
          refine lv_istore (lv' := [(13, .int 0), (11, .int (i11_244 ||| (z_11.2.2 i12_244.toNatClampNeg))), (12, .int i12_244), (10, .ref q_10), (9, .ref q_8), (8, .ref q_6), (7, .int x_4), (6, .int x_3), (5, .int x_2.1), (4, .int x_1.1), (0, .ref (a 0)), (1, .int x1), (2, .int x2), (3, .ref adt)]) hx hb dL_isShown_283 hl (by decide) rfl (fun ls hl => ?_)
          have L_285 := lt_isShown_285 (p := p) (e := e) (s := s) (m := m) (below := below) (meth := meth) (c := c) (A := A) l dC dI cI cJ cZ a adt r0 x1 x2 K I T nt ft x_1 x_2 x_3 x_4 z_11 z_12 z_13 x_14 i11_244 i12_244 N_244 q_6 q_8 q_10 C kc_244 ks_244 (by omega) (by omega) 
          obtain ⟨z_244005, hz_244005, hf⟩ := Option.bind_eq_some_iff.mp hf
          refine L_285 1000 0 H locs ls z_244005 (lv_sub hl [0, 1, 2, 3, 4, 5, 6, 7, 8, 9, 10, 11, 12, 13] rfl) hP hD hS hz_244005 (fun r_ hz => by rw [hz] at hf; exact hret_244 r_ (Option.some.inj hf).symm) (fun y_244006 H locs ls hz hl hP hD hS => ?_)
          subst hz
          simp only [Sum.elim_inr] at hf
          refine lv_iload hx hb dL_isShown_333 (lv_at hl 2 rfl) ?_
          refine lv_iload hx hb dL_isShown_335 (lv_at hl 9 rfl) ?_
          refine lv_iconst (v := 1) hx hb dL_isShown_337 (by decide) ?_
          refine lv_isub hx hb dL_isShown_338 ?_
          refine lv_icmp_ne (tgt := 345) hx hb dL_isShown_339 (by decide) (fun c_244007 => ?_) (fun c_244007 => ?_)
          · replace hf := (if_neg c_244007).symm.trans hf
            refine lv_iload_n hx hb dL_isShown_345 rfl (lv_at hl 12 rfl) ?_
            by_cases nc_244008 : ¬ q_ix x2 65 = true
            · replace hf := (if_neg nc_244008).symm.trans hf
              cases hf
            have c_244008 := Classical.not_not.mp nc_244008
            replace hf := (if_pos c_244008).symm.trans hf
            have kc_244008 := q_ixlt c_244008
            refine va_newa (atype := .int) (ty := .int) (a0 := (x2.toNatClampNeg, .inl (fun _ => 0))) (N' := x2.toNatClampNeg) hx hb (hts (.arrayClass .int) (by decide +kernel)) rfl hK hP hD hS hA (fun _ => rfl) kc_244008.1 rfl (by show x2.toNatClampNeg * 4 ≤ 536870912; omega) (by show kc_244 + 1 ≤ 193; omega) (by show ks_244 + x2.toNatClampNeg ≤ 7412; omega) dL_isShown_346 (fun q_244009 cN H hK2 hP hD hS => ?_)
            obtain rfl := q_sameI3 hK2
            refine W.widen (k := kc_244 + 1) (n := ks_244 + 64) (by omega) (by omega) ?_
            have hP : va_P (dC, dI) vwCl (wSg a cI cJ x_14.2.1 x_14.2.2.1 K N_244 I T ++ [(adt, .inl (cI, nt, .inl ft))] ++ [(q_6, .inl (cI, ((if (0 : Int32) < x_1.1 then x_1.1 else 0).toNatClampNeg), .inl z_11.2.2))] ++ [(q_8, .inl (cI, x2.toNatClampNeg, .inl z_12.2))] ++ [(q_10, .inl (cZ, x_4.toNatClampNeg, .inl z_13.2.2))] ++ [(q_244009, .inl (cI, x2.toNatClampNeg, .inl (fun _ => 0)))]) H := hP
            have hD : va_D A (wSg a cI cJ x_14.2.1 x_14.2.2.1 K N_244 I T ++ [(adt, .inl (cI, nt, .inl ft))] ++ [(q_6, .inl (cI, ((if (0 : Int32) < x_1.1 then x_1.1 else 0).toNatClampNeg), .inl z_11.2.2))] ++ [(q_8, .inl (cI, x2.toNatClampNeg, .inl z_12.2))] ++ [(q_10, .inl (cZ, x_4.toNatClampNeg, .inl z_13.2.2))] ++ [(q_244009, .inl (cI, x2.toNatClampNeg, .inl (fun _ => 0)))]) := hD
            refine lv_astore (lv' := [(13, .ref q_244009), (11, .int (i11_244 ||| (z_11.2.2 i12_244.toNatClampNeg))), (12, .int i12_244), (10, .ref q_10), (9, .ref q_8), (8, .ref q_6), (7, .int x_4), (6, .int x_3), (5, .int x_2.1), (4, .int x_1.1), (0, .ref (a 0)), (1, .int x1), (2, .int x2), (3, .ref adt)]) hx hb dL_isShown_348 hl (by decide) rfl (fun ls hl => ?_)
            refine lv_iconst (v := 0) hx hb dL_isShown_350 (by decide) ?_
            refine lv_istore (lv' := [(14, .int 0), (13, .ref q_244009), (11, .int (i11_244 ||| (z_11.2.2 i12_244.toNatClampNeg))), (12, .int i12_244), (10, .ref q_10), (9, .ref q_8), (8, .ref q_6), (7, .int x_4), (6, .int x_3), (5, .int x_2.1), (4, .int x_1.1), (0, .ref (a 0)), (1, .int x1), (2, .int x2), (3, .ref adt)]) hx hb dL_isShown_351 hl (by decide) rfl (fun ls hl => ?_)
            have L_353 := lt_isShown_353 (p := p) (e := e) (s := s) (m := m) (below := below) (meth := meth) (c := c) (A := A) l dC dI cI cJ cZ a adt r0 x1 x2 K I T nt ft x_1 x_2 x_3 x_4 z_11 z_12 z_13 x_14 i11_244 i12_244 N_244 q_6 q_8 q_10 q_244009 C kc_244 ks_244 (by omega) (by omega) 
            obtain ⟨z_244010, hz_244010, hf⟩ := Option.bind_eq_some_iff.mp hf
            refine L_353 1000 0 (fun _ => 0) H locs ls z_244010 (lv_sub hl [0, 1, 2, 3, 4, 5, 6, 7, 8, 9, 10, 11, 12, 13, 14] rfl) hP hD hS hz_244010 (fun H locs ls hl hP hD hS => ?_)
            refine lv_aload_n hx hb dL_isShown_396 rfl (lv_at hl 11 rfl) ?_
            refine lv_aload hx hb dL_isShown_397 (lv_at hl 1 rfl) ?_
            refine lv_aload hx hb dL_isShown_399 (lv_at hl 4 rfl) ?_
            refine lv_aload_n hx hb dL_isShown_401 rfl (lv_at hl 14 rfl) ?_
            obtain ⟨x_244011, hx_244011, hf⟩ := Option.bind_eq_some_iff.mp hf
            have hPc := hP.sub (ws' := (wSg a cI cJ x_14.2.1 x_14.2.2.1 K N_244 I T ++ [(q_244009, .inl (cI, x2.toNatClampNeg, .inl z_244010.2))] ++ [(q_10, .inl (cZ, x_4.toNatClampNeg, .inl z_13.2.2))] ++ [(adt, .inl (cI, nt, .inl ft))])) [0, 1, 2, 3, 4, 5, 6, 7, 8, 9, 10, 11, 12, 13, 14, 15, 16, 17, 22, 21, 18] rfl
            have hDc := hD.sub (ws' := (wSg a cI cJ x_14.2.1 x_14.2.2.1 K N_244 I T ++ [(q_244009, .inl (cI, x2.toNatClampNeg, .inl z_244010.2))] ++ [(q_10, .inl (cZ, x_4.toNatClampNeg, .inl z_13.2.2))] ++ [(adt, .inl (cI, nt, .inl ft))])) [0, 1, 2, 3, 4, 5, 6, 7, 8, 9, 10, 11, 12, 13, 14, 15, 16, 17, 22, 21, 18] (by decide) rfl
            have hFc := va_free (wc := (wSg a cI cJ x_14.2.1 x_14.2.2.1 K N_244 I T ++ [(q_244009, .inl (cI, x2.toNatClampNeg, .inl z_244010.2))] ++ [(q_10, .inl (cZ, x_4.toNatClampNeg, .inl z_13.2.2))] ++ [(adt, .inl (cI, nt, .inl ft))])) hD hS hA [0, 1, 2, 3, 4, 5, 6, 7, 8, 9, 10, 11, 12, 13, 14, 15, 16, 17, 22, 21, 18] rfl
            refine va_calli (va_runS (As := [.ref (a 0), .ref q_244009, .ref q_10, .ref adt]) (rest := []) ⟨hx, hb, hml, hown, hts⟩ (c_L_isRight l dC dI cI cJ cZ a q_244009 q_10 adt H.size x_14.2.1 x_14.2.2.1 K N_244 I T x2.toNatClampNeg z_244010.2 x_4.toNatClampNeg z_13.2.2 nt ft x_244011 hx_244011) (va_cwS 4 hts gM_isShown_L_isRight rfl rfl rfl (by decide +kernel) ⟨Nat.le_of_ble_eq_true rfl, Nat.le_of_ble_eq_true rfl⟩) ⟨q_Wblind, q_Wpre hPc hK hn hDc⟩ rfl rfl hl.1 rfl (lv_room (Nat.le_of_ble_eq_true rfl)) dL_isShown_402 ⟨by show kc_244 + 1 + 18 ≤ 193; omega, by show ks_244 + 64 + 658 ≤ 7412; omega⟩) hS (fun q _ h => hFc q h) hFc (fun r_9 u t H1 locs ht hvm hw hB hz1 hk1 hS => ?_)
            subst hw
            obtain ⟨hP1, hK1, hD1⟩ := hB
            rw [ht] at hP1
            obtain ⟨hP, hD⟩ := va_join (wr := ([(q_6, .inl (cI, ((if (0 : Int32) < x_1.1 then x_1.1 else 0).toNatClampNeg), .inl z_11.2.2))] ++ [(q_8, .inl (cI, x2.toNatClampNeg, .inl z_12.2))])) (w1 := (wSg a cI cJ x_14.2.1 x_14.2.2.1 K x_244011.2 I T ++ [(q_244009, .inl (cI, x2.toNatClampNeg, .inl z_244010.2))] ++ [(q_10, .inl (cZ, x_4.toNatClampNeg, .inl z_13.2.2))] ++ [(adt, .inl (cI, nt, .inl ft))])) hP hD [0, 1, 2, 3, 4, 5, 6, 7, 8, 9, 10, 11, 12, 13, 14, 15, 16, 17, 22, 21, 18] [19, 20] rfl rfl (by decide) (by decide) hk1 hFc hP1 hD1
            generalize H1 = H at hP hS ⊢
            replace hP := hP.sub (ws' := (wSg a cI cJ x_14.2.1 x_14.2.2.1 K x_244011.2 I T ++ [(adt, .inl (cI, nt, .inl ft))] ++ [(q_6, .inl (cI, ((if (0 : Int32) < x_1.1 then x_1.1 else 0).toNatClampNeg), .inl z_11.2.2))] ++ [(q_8, .inl (cI, x2.toNatClampNeg, .inl z_12.2))] ++ [(q_10, .inl (cZ, x_4.toNatClampNeg, .inl z_13.2.2))] ++ [(q_244009, .inl (cI, x2.toNatClampNeg, .inl z_244010.2))])) [2, 3, 4, 5, 6, 7, 8, 9, 10, 11, 12, 13, 14, 15, 16, 17, 18, 19, 22, 0, 1, 21, 20] rfl
            replace hD := hD.sub (ws' := (wSg a cI cJ x_14.2.1 x_14.2.2.1 K x_244011.2 I T ++ [(adt, .inl (cI, nt, .inl ft))] ++ [(q_6, .inl (cI, ((if (0 : Int32) < x_1.1 then x_1.1 else 0).toNatClampNeg), .inl z_11.2.2))] ++ [(q_8, .inl (cI, x2.toNatClampNeg, .inl z_12.2))] ++ [(q_10, .inl (cZ, x_4.toNatClampNeg, .inl z_13.2.2))] ++ [(q_244009, .inl (cI, x2.toNatClampNeg, .inl z_244010.2))])) [2, 3, 4, 5, 6, 7, 8, 9, 10, 11, 12, 13, 14, 15, 16, 17, 18, 19, 22, 0, 1, 21, 20] (by decide) rfl
            have hP : va_P (dC, dI) vwCl (wSg a cI cJ x_14.2.1 x_14.2.2.1 K x_244011.2 I T ++ [(adt, .inl (cI, nt, .inl ft))] ++ [(q_6, .inl (cI, ((if (0 : Int32) < x_1.1 then x_1.1 else 0).toNatClampNeg), .inl z_11.2.2))] ++ [(q_8, .inl (cI, x2.toNatClampNeg, .inl z_12.2))] ++ [(q_10, .inl (cZ, x_4.toNatClampNeg, .inl z_13.2.2))] ++ [(q_244009, .inl (cI, x2.toNatClampNeg, .inl z_244010.2))]) H := hP
            have hD : va_D A (wSg a cI cJ x_14.2.1 x_14.2.2.1 K x_244011.2 I T ++ [(adt, .inl (cI, nt, .inl ft))] ++ [(q_6, .inl (cI, ((if (0 : Int32) < x_1.1 then x_1.1 else 0).toNatClampNeg), .inl z_11.2.2))] ++ [(q_8, .inl (cI, x2.toNatClampNeg, .inl z_12.2))] ++ [(q_10, .inl (cZ, x_4.toNatClampNeg, .inl z_13.2.2))] ++ [(q_244009, .inl (cI, x2.toNatClampNeg, .inl z_244010.2))]) := hD
            refine W.widen (k := kc_244 + 19) (n := ks_244 + 722) (by omega) (by omega) ?_
            refine lv_if_ne (tgt := 410) hx hb dL_isShown_405 (by decide) (fun c_244012 => ?_) (fun c_244012 => ?_)
            · replace hf := (if_neg c_244012).symm.trans hf
              refine lv_iinc (v := i12_244 + 1) (lv' := [(12, .int (i12_244 + 1)), (14, .int z_244010.1), (13, .ref q_244009), (11, .int (i11_244 ||| (z_11.2.2 i12_244.toNatClampNeg))), (10, .ref q_10), (9, .ref q_8), (8, .ref q_6), (7, .int x_4), (6, .int x_3), (5, .int x_2.1), (4, .int x_1.1), (0, .ref (a 0)), (1, .int x1), (2, .int x2), (3, .ref adt)]) hx hb dL_isShown_410 hl (k := 3) rfl rfl (by decide) rfl (fun ls hl => ?_)
              refine lv_goto (tgt := 244) hx hb dL_isShown_413 (by decide) ?_
              replace hP := hP.sub (ws' := (wSg a cI cJ x_14.2.1 x_14.2.2.1 K x_244011.2 I T ++ [(adt, .inl (cI, nt, .inl ft))] ++ [(q_6, .inl (cI, ((if (0 : Int32) < x_1.1 then x_1.1 else 0).toNatClampNeg), .inl z_11.2.2))] ++ [(q_8, .inl (cI, x2.toNatClampNeg, .inl z_12.2))] ++ [(q_10, .inl (cZ, x_4.toNatClampNeg, .inl z_13.2.2))])) [0, 1, 2, 3, 4, 5, 6, 7, 8, 9, 10, 11, 12, 13, 14, 15, 16, 17, 18, 19, 20, 21] rfl
              replace hD := hD.sub (ws' := (wSg a cI cJ x_14.2.1 x_14.2.2.1 K x_244011.2 I T ++ [(adt, .inl (cI, nt, .inl ft))] ++ [(q_6, .inl (cI, ((if (0 : Int32) < x_1.1 then x_1.1 else 0).toNatClampNeg), .inl z_11.2.2))] ++ [(q_8, .inl (cI, x2.toNatClampNeg, .inl z_12.2))] ++ [(q_10, .inl (cZ, x_4.toNatClampNeg, .inl z_13.2.2))])) [0, 1, 2, 3, 4, 5, 6, 7, 8, 9, 10, 11, 12, 13, 14, 15, 16, 17, 18, 19, 20, 21] (by decide) rfl
              exact ih (i11_244 ||| (z_11.2.2 i12_244.toNatClampNeg)) (i12_244 + 1) x_244011.2 (kc_244 + 19) (ks_244 + 722) H locs ls _ (lv_sub hl [0, 3, 4, 5, 6, 7, 8, 9, 10, 11, 12, 13, 14] rfl) (by omega) (by omega) hP hD hS hf hret_244 hex_244
            · replace hf := (if_pos c_244012).symm.trans hf
              refine lv_iconst (v := 0) hx hb dL_isShown_408 (by decide) ?_
              replace hf := hret_244 (0, x_14.2.1, x_14.2.2.1, x_244011.2) (Option.some.inj hf).symm
              subst hf
              have hP9 := hP.sub (ws' := (wSg a cI cJ x_14.2.1 x_14.2.2.1 K x_244011.2 I T ++ [(adt, .inl (cI, nt, .inl ft))])) [0, 1, 2, 3, 4, 5, 6, 7, 8, 9, 10, 11, 12, 13, 14, 15, 16, 17, 18] rfl
              have hD9 := hD.sub (ws' := (wSg a cI cJ x_14.2.1 x_14.2.2.1 K x_244011.2 I T ++ [(adt, .inl (cI, nt, .inl ft))])) [0, 1, 2, 3, 4, 5, 6, 7, 8, 9, 10, 11, 12, 13, 14, 15, 16, 17, 18] (by decide) rfl
              refine W.widen (k := 193) (n := 7412) (by omega) (by omega) ?_
              exact W.zret (v := 0) (ty := .boolean) hx hb hr rfl (fun t ht hW => ⟨⟨0, (), rfl, rfl, ⟨by rw [ht]; exact hP9, va_K.moved hW.alike hK, hD9⟩⟩, hS.F ht⟩) hS.2.2 dL_isShown_409
          · replace hf := (if_pos c_244007).symm.trans hf
            refine lv_goto (tgt := 410) hx hb dL_isShown_342 (by decide) ?_
            refine lv_iinc (v := i12_244 + 1) (lv' := [(12, .int (i12_244 + 1)), (13, .int y_244006), (11, .int (i11_244 ||| (z_11.2.2 i12_244.toNatClampNeg))), (10, .ref q_10), (9, .ref q_8), (8, .ref q_6), (7, .int x_4), (6, .int x_3), (5, .int x_2.1), (4, .int x_1.1), (0, .ref (a 0)), (1, .int x1), (2, .int x2), (3, .ref adt)]) hx hb dL_isShown_410 hl (k := 2) rfl rfl (by decide) rfl (fun ls hl => ?_)
            refine lv_goto (tgt := 244) hx hb dL_isShown_413 (by decide) ?_
            exact ih (i11_244 ||| (z_11.2.2 i12_244.toNatClampNeg)) (i12_244 + 1) N_244 kc_244 ks_244 H locs ls _ (lv_sub hl [0, 2, 3, 4, 5, 6, 7, 8, 9, 10, 11, 12, 13] rfl) (by omega) (by omega) hP hD hS hf hret_244 hex_244
        · replace hf := (if_neg c_244004).symm.trans hf
          refine lv_iconst (v := 0) hx hb dL_isShown_270 (by decide) ?_
          replace hf := hret_244 (0, x_14.2.1, x_14.2.2.1, N_244) (Option.some.inj hf).symm
          subst hf
          have hP9 := hP.sub (ws' := (wSg a cI cJ x_14.2.1 x_14.2.2.1 K N_244 I T ++ [(adt, .inl (cI, nt, .inl ft))])) [0, 1, 2, 3, 4, 5, 6, 7, 8, 9, 10, 11, 12, 13, 14, 15, 16, 17, 18] rfl
          have hD9 := hD.sub (ws' := (wSg a cI cJ x_14.2.1 x_14.2.2.1 K N_244 I T ++ [(adt, .inl (cI, nt, .inl ft))])) [0, 1, 2, 3, 4, 5, 6, 7, 8, 9, 10, 11, 12, 13, 14, 15, 16, 17, 18] (by decide) rfl
          refine W.widen (k := 193) (n := 7412) (by omega) (by omega) ?_
          exact W.zret (v := 0) (ty := .boolean) hx hb hr rfl (fun t ht hW => ⟨⟨0, (), rfl, rfl, ⟨by rw [ht]; exact hP9, va_K.moved hW.alike hK, hD9⟩⟩, hS.F ht⟩) hS.2.2 dL_isShown_271
