def fl_X0_begin_22  : Nat → Int32 → q_Bd → Option (Int32 × q_Bd)
  | 0, _, _ => none
  | nn + 1, i2_22, B_22 => (if (nI 40) ≤ i2_22 then some (i2_22, B_22) else (if q_ix i2_22 40 = true then fl_X0_begin_22  nn (i2_22 + 1) ((upd B_22.1 i2_22.toNatClampNeg 0), B_22.2.1, B_22.2.2.1, B_22.2.2.2.1, B_22.2.2.2.2.1, B_22.2.2.2.2.2) else none))
def fl_X0_begin_46  : Nat → Int32 → q_Bd → Option (Int32 × q_Bd)
  | 0, _, _ => none
  | nn + 1, i2_46, B_46 => (if (nI 8) ≤ i2_46 then some (i2_46, B_46) else (if q_ix i2_46 8 = true then fl_X0_begin_46  nn (i2_46 + 1) (B_46.1, (upd B_46.2.1 i2_46.toNatClampNeg 0), B_46.2.2.1, B_46.2.2.2.1, B_46.2.2.2.2.1, B_46.2.2.2.2.2) else none))
def f_X0_begin (B : q_Bd) (x0 : Int32) : Option (q_Bd) := ((fl_X0_begin_22  1000 0 (B.1, B.2.1, x0, 0, 0, 0)).bind fun z_3 => ((fl_X0_begin_46  1000 0 z_3.2).bind fun z_6 => some z_6.2))
set_option maxHeartbeats 4000000 in
set_option maxRecDepth 100000 in
theorem c_X0_begin (l : Launch) (dC : Nat → ClassId) (dI : Nat → Nat → Nat) (cI cJ : ClassId) (b0 : Nat) (b1 : Nat) (b2 : Nat) (sz : Nat) (B : q_Bd) (x0 : Int32) (r0 : q_Bd) (hf : f_X0_begin B x0 = some r0) : Met l yX0_begin wsX0_begin ({ frames := 0, cells := 0, slots := 0, locals := 0 } : Room) (va_Pc [.ref b0, .int x0] (q_W (dC, dI) vwCl (wBd b0 b1 b2 cI B) (q_ty cI cJ) sz)) (va_Qv (S := Unit) (fun _ => True) (fun _ => q_E (dC, dI) vwCl (wBd b0 b1 b2 cI r0) (q_ty cI cJ) (va_A (wBd b0 b1 b2 cI B) sz)) (va_A (wBd b0 b1 b2 cI B) sz)) 0 0 (va_A (wBd b0 b1 b2 cI B) sz) := by
  refine Met.ofW (cc := cX0_begin) (maxL := 3) (ret := none) (by decide) rfl ?_
  intro p e s m args below meth c s₁ BB hml hv
  obtain ⟨rfl, hsz, hP, hK, hn, hD0⟩ := hv
  have hx := BB.exec
  have hb := BB.bytes
  have hr := BB.returns
  have hts := atoms_spec (ws := wsX0_begin) BB.pre
  have hown : s.vm.findClass RX0 = some m.cls := findClass_of_methodNamed BB.named
  have hlocks := BB.notSynchronized
  subst hsz
  have hD := hD0.self (sz := s.heap.size)
  generalize hAe : va_A (wBd b0 b1 b2 cI B) s.heap.size = A at hD ⊢
  have hA : ∀ q : Nat, s.heap.size ≤ q → A q := fun q h => by rw [← hAe]; exact Or.inr h
  have hS : va_S A s.heap s.heap [] := va_S.rf
  have hi0 : ∀ w ∈ u_ws RX0 TX0 6, w ∈ wsX0_begin := by decide +kernel
  have hl := lv_entry [.ref b0, .int x0] (n := 3) (Nat.le_of_ble_eq_true rfl)
  rw [lg_entry_eq]
  generalize (lg_sl [.ref b0, .int x0] ++ List.replicate (3 - (lg_sl [.ref b0, .int x0]).length) Slot.unset).toArray = ls at hl ⊢
  have hl : lv_has ls 3 [(0, .ref b0), (1, .int x0)] := hl
  obtain ⟨H, hH⟩ : ∃ H, H = s.heap := ⟨_, rfl⟩
  obtain ⟨locs, hlocs⟩ : ∃ x : List Loc, x = [] := ⟨_, rfl⟩
  rw [← hH] at hP
  have hS : va_S A s.heap H locs := by rw [hH, hlocs]; exact hS
  suffices hgoal : ∀ (H : Heap) (locs : List Loc), va_P (dC, dI) vwCl (wBd b0 b1 b2 cI B) H → va_S A s.heap H locs → W p l e (headSpec wsX0_begin ({ frames := 0, cells := 0, slots := 0, locals := 0 } : Room)).room s m [.ref b0, .int x0].toArray below meth c H locs 0 0 (MQ below (va_Qv (S := Unit) (fun _ => True) (fun _ => q_E (dC, dI) vwCl (wBd b0 b1 b2 cI r0) (q_ty cI cJ) A) A) [.ref b0, .int x0].toArray s 0 0 A) (F0 m 0 ls []) by
    have h9 := hgoal H locs hP hS
    rw [hH, hlocs] at h9
    exact h9
  clear hP hS hH H hlocs locs
  intro H locs hP hS
  unfold f_X0_begin at hf
  refine lv_aload_n hx hb dX0_begin_0 rfl (lv_at hl 0 rfl) ?_
  refine lv_iload_n hx hb dX0_begin_1 rfl (lv_at hl 1 rfl) ?_
  refine va_put (D := (dC, dI)) (ci := 0) (v := .int x0) (ty := .int) (C := RX0) (T := TX0) (N := 6) hx hb hts hi0 tyX0 tyX0_ok nmX0 hown hK hP hD hS 0 rfl rfl 2 (by decide) (hts (.fieldLink RX0 18 RX0 "columns" "I") (by decide +kernel)) (fun _ h9 => h9) rfl (by decide +kernel) rfl rfl (Nat.le_of_ble_eq_true rfl) dX0_begin_2 (fun H locs hP hD hS => ?_)
  have hP : va_P (dC, dI) vwCl (wBd b0 b1 b2 cI (B.1, B.2.1, x0, B.2.2.2.1, B.2.2.2.2.1, B.2.2.2.2.2)) H := hP
  have hD : va_D A (wBd b0 b1 b2 cI (B.1, B.2.1, x0, B.2.2.2.1, B.2.2.2.2.1, B.2.2.2.2.2)) := hD
  refine lv_aload_n hx hb dX0_begin_5 rfl (lv_at hl 0 rfl) ?_
  refine lv_lconst (v := 0) hx hb dX0_begin_6 (by decide) ?_
  refine va_put (D := (dC, dI)) (ci := 0) (v := .long 0) (ty := .long) (C := RX0) (T := TX0) (N := 6) hx hb hts hi0 tyX0 tyX0_ok nmX0 hown hK hP hD hS 0 rfl rfl 3 (by decide) (hts (.fieldLink RX0 22 RX0 "picture" "J") (by decide +kernel)) (fun _ h9 => h9) rfl (by decide +kernel) rfl rfl (Nat.le_of_ble_eq_true rfl) dX0_begin_7 (fun H locs hP hD hS => ?_)
  have hP : va_P (dC, dI) vwCl (wBd b0 b1 b2 cI (B.1, B.2.1, x0, 0, B.2.2.2.2.1, B.2.2.2.2.2)) H := hP
  have hD : va_D A (wBd b0 b1 b2 cI (B.1, B.2.1, x0, 0, B.2.2.2.2.1, B.2.2.2.2.2)) := hD
  refine lv_aload_n hx hb dX0_begin_10 rfl (lv_at hl 0 rfl) ?_
  refine lv_lconst (v := 0) hx hb dX0_begin_11 (by decide) ?_
  refine va_put (D := (dC, dI)) (ci := 0) (v := .long 0) (ty := .long) (C := RX0) (T := TX0) (N := 6) hx hb hts hi0 tyX0 tyX0_ok nmX0 hown hK hP hD hS 0 rfl rfl 4 (by decide) (hts (.fieldLink RX0 26 RX0 "stuck" "J") (by decide +kernel)) (fun _ h9 => h9) rfl (by decide +kernel) rfl rfl (Nat.le_of_ble_eq_true rfl) dX0_begin_12 (fun H locs hP hD hS => ?_)
  have hP : va_P (dC, dI) vwCl (wBd b0 b1 b2 cI (B.1, B.2.1, x0, 0, 0, B.2.2.2.2.2)) H := hP
  have hD : va_D A (wBd b0 b1 b2 cI (B.1, B.2.1, x0, 0, 0, B.2.2.2.2.2)) := hD
  refine lv_aload_n hx hb dX0_begin_15 rfl (lv_at hl 0 rfl) ?_
  refine lv_lconst (v := 0) hx hb dX0_begin_16 (by decide) ?_
  refine va_put (D := (dC, dI)) (ci := 0) (v := .long 0) (ty := .long) (C := RX0) (T := TX0) (N := 6) hx hb hts hi0 tyX0 tyX0_ok nmX0 hown hK hP hD hS 0 rfl rfl 5 (by decide) (hts (.fieldLink RX0 29 RX0 "stuckBright" "J") (by decide +kernel)) (fun _ h9 => h9) rfl (by decide +kernel) rfl rfl (Nat.le_of_ble_eq_true rfl) dX0_begin_17 (fun H locs hP hD hS => ?_)
  have hP : va_P (dC, dI) vwCl (wBd b0 b1 b2 cI (B.1, B.2.1, x0, 0, 0, 0)) H := hP
  have hD : va_D A (wBd b0 b1 b2 cI (B.1, B.2.1, x0, 0, 0, 0)) := hD
  refine lv_iconst (v := 0) hx hb dX0_begin_20 (by decide) ?_
  refine lv_istore_n (lv' := [(2, .int 0), (0, .ref b0), (1, .int x0)]) hx hb dX0_begin_21 rfl hl (by decide) rfl (fun ls hl => ?_)
  have L_22 : ∀ (nn : Nat) (i2_22 : Int32) (B_22 : q_Bd) (H : Heap) (locs : List Loc) (ls : Array Slot) (z_22 : (Int32 × q_Bd)), lv_has ls 3 [(2, .int i2_22), (0, .ref b0), (1, .int x0)] → va_P (dC, dI) vwCl (wBd b0 b1 b2 cI B_22) H → va_D A (wBd b0 b1 b2 cI B_22) → va_S A s.heap H locs → fl_X0_begin_22  nn i2_22 B_22 = some z_22 → (∀ (H : Heap) (locs : List Loc) (ls : Array Slot), lv_has ls 3 [(2, .int z_22.1), (0, .ref b0), (1, .int x0)] → va_P (dC, dI) vwCl (wBd b0 b1 b2 cI z_22.2) H → va_D A (wBd b0 b1 b2 cI z_22.2) → va_S A s.heap H locs → W p l e (headSpec wsX0_begin ({ frames := 0, cells := 0, slots := 0, locals := 0 } : Room)).room s m [.ref b0, .int x0].toArray below meth c H locs 0 0 (MQ below (va_Qv (S := Unit) (fun _ => True) (fun _ => q_E (dC, dI) vwCl (wBd b0 b1 b2 cI r0) (q_ty cI cJ) A) A) [.ref b0, .int x0].toArray s 0 0 A) (F0 m 44 ls [])) → W p l e (headSpec wsX0_begin ({ frames := 0, cells := 0, slots := 0, locals := 0 } : Room)).room s m [.ref b0, .int x0].toArray below meth c H locs 0 0 (MQ below (va_Qv (S := Unit) (fun _ => True) (fun _ => q_E (dC, dI) vwCl (wBd b0 b1 b2 cI r0) (q_ty cI cJ) A) A) [.ref b0, .int x0].toArray s 0 0 A) (F0 m 22 ls []) := by
    intro nn
    induction nn with
    | zero =>
      intro i2_22 B_22 H locs ls z_22 hl hP hD hS hf hex_22
      rw [fl_X0_begin_22] at hf
      cases hf
    | succ nn ih =>
      intro i2_22 B_22 H locs ls z_22 hl hP hD hS hf hex_22
      rw [fl_X0_begin_22] at hf
      refine lv_iload_n hx hb dX0_begin_22 rfl (lv_at hl 0 rfl) ?_
      refine lv_aload_n hx hb dX0_begin_23 rfl (lv_at hl 1 rfl) ?_
      refine va_get (D := (dC, dI)) (ci := 0) (v := .ref b1) (C := RX0) (T := TX0) (N := 6) hx hb hts hi0 hown hK hP 0 rfl rfl 0 (by decide) (hts (.fieldLink RX0 9 RX0 "flips" "[I") (by decide +kernel)) (fun _ h9 => h9) rfl dX0_begin_24 ?_
      refine va_alen (v := nI 40) hx hb hK hP 1 0 rfl rfl rfl dX0_begin_27 ?_
      refine lv_icmp_ge (tgt := 44) hx hb dX0_begin_28 (by decide) (fun c_1 => ?_) (fun c_1 => ?_)
      · replace hf := (if_pos c_1).symm.trans hf
        replace hf := Option.some.inj hf
        subst hf
        exact hex_22 H locs ls (lv_sub hl [0, 1, 2] rfl) hP hD hS
      · replace hf := (if_neg c_1).symm.trans hf
        refine lv_aload_n hx hb dX0_begin_31 rfl (lv_at hl 1 rfl) ?_
        refine va_get (D := (dC, dI)) (ci := 0) (v := .ref b1) (C := RX0) (T := TX0) (N := 6) hx hb hts hi0 hown hK hP 0 rfl rfl 0 (by decide) (hts (.fieldLink RX0 9 RX0 "flips" "[I") (by decide +kernel)) (fun _ h9 => h9) rfl dX0_begin_32 ?_
        refine lv_iload_n hx hb dX0_begin_35 rfl (lv_at hl 0 rfl) ?_
        refine lv_iconst (v := 0) hx hb dX0_begin_36 (by decide) ?_
        by_cases nc_2 : ¬ q_ix i2_22 40 = true
        · replace hf := (if_neg nc_2).symm.trans hf
          cases hf
        have c_2 := Classical.not_not.mp nc_2
        replace hf := (if_pos c_2).symm.trans hf
        refine va_iast hx hb hK hP hD hS 1 0 rfl rfl (q_ix_in c_2) dX0_begin_37 (fun H locs hP hD hS => ?_)
        have hP : va_P (dC, dI) vwCl (wBd b0 b1 b2 cI ((upd B_22.1 i2_22.toNatClampNeg 0), B_22.2.1, B_22.2.2.1, B_22.2.2.2.1, B_22.2.2.2.2.1, B_22.2.2.2.2.2)) H := hP
        have hD : va_D A (wBd b0 b1 b2 cI ((upd B_22.1 i2_22.toNatClampNeg 0), B_22.2.1, B_22.2.2.1, B_22.2.2.2.1, B_22.2.2.2.2.1, B_22.2.2.2.2.2)) := hD
        refine lv_iinc (v := i2_22 + 1) (lv' := [(2, .int (i2_22 + 1)), (0, .ref b0), (1, .int x0)]) hx hb dX0_begin_38 hl (k := 0) rfl rfl (by decide) rfl (fun ls hl => ?_)
        refine lv_goto (tgt := 22) hx hb dX0_begin_41 (by decide) ?_
        exact ih (i2_22 + 1) ((upd B_22.1 i2_22.toNatClampNeg 0), B_22.2.1, B_22.2.2.1, B_22.2.2.2.1, B_22.2.2.2.2.1, B_22.2.2.2.2.2) H locs ls _ (lv_sub hl [0, 1, 2] rfl) hP hD hS hf hex_22
  obtain ⟨z_3, hz_3, hf⟩ := Option.bind_eq_some_iff.mp hf
  refine L_22 1000 0 (B.1, B.2.1, x0, 0, 0, 0) H locs ls z_3 (lv_sub hl [0, 1, 2] rfl) hP hD hS hz_3 (fun H locs ls hl hP hD hS => ?_)
  refine lv_iconst (v := 0) hx hb dX0_begin_44 (by decide) ?_
  refine lv_istore_n (lv' := [(2, .int 0), (0, .ref b0), (1, .int x0)]) hx hb dX0_begin_45 rfl hl (by decide) rfl (fun ls hl => ?_)
  have L_46 : ∀ (nn : Nat) (i2_46 : Int32) (B_46 : q_Bd) (H : Heap) (locs : List Loc) (ls : Array Slot) (z_46 : (Int32 × q_Bd)), lv_has ls 3 [(2, .int i2_46), (0, .ref b0), (1, .int x0)] → va_P (dC, dI) vwCl (wBd b0 b1 b2 cI B_46) H → va_D A (wBd b0 b1 b2 cI B_46) → va_S A s.heap H locs → fl_X0_begin_46  nn i2_46 B_46 = some z_46 → (∀ (H : Heap) (locs : List Loc) (ls : Array Slot), lv_has ls 3 [(2, .int z_46.1), (0, .ref b0), (1, .int x0)] → va_P (dC, dI) vwCl (wBd b0 b1 b2 cI z_46.2) H → va_D A (wBd b0 b1 b2 cI z_46.2) → va_S A s.heap H locs → W p l e (headSpec wsX0_begin ({ frames := 0, cells := 0, slots := 0, locals := 0 } : Room)).room s m [.ref b0, .int x0].toArray below meth c H locs 0 0 (MQ below (va_Qv (S := Unit) (fun _ => True) (fun _ => q_E (dC, dI) vwCl (wBd b0 b1 b2 cI r0) (q_ty cI cJ) A) A) [.ref b0, .int x0].toArray s 0 0 A) (F0 m 68 ls [])) → W p l e (headSpec wsX0_begin ({ frames := 0, cells := 0, slots := 0, locals := 0 } : Room)).room s m [.ref b0, .int x0].toArray below meth c H locs 0 0 (MQ below (va_Qv (S := Unit) (fun _ => True) (fun _ => q_E (dC, dI) vwCl (wBd b0 b1 b2 cI r0) (q_ty cI cJ) A) A) [.ref b0, .int x0].toArray s 0 0 A) (F0 m 46 ls []) := by
    intro nn
    induction nn with
    | zero =>
      intro i2_46 B_46 H locs ls z_46 hl hP hD hS hf hex_46
      rw [fl_X0_begin_46] at hf
      cases hf
    | succ nn ih =>
      intro i2_46 B_46 H locs ls z_46 hl hP hD hS hf hex_46
      rw [fl_X0_begin_46] at hf
      refine lv_iload_n hx hb dX0_begin_46 rfl (lv_at hl 0 rfl) ?_
      refine lv_aload_n hx hb dX0_begin_47 rfl (lv_at hl 1 rfl) ?_
      refine va_get (D := (dC, dI)) (ci := 0) (v := .ref b2) (C := RX0) (T := TX0) (N := 6) hx hb hts hi0 hown hK hP 0 rfl rfl 1 (by decide) (hts (.fieldLink RX0 15 RX0 "wear" "[I") (by decide +kernel)) (fun _ h9 => h9) rfl dX0_begin_48 ?_
      refine va_alen (v := nI 8) hx hb hK hP 2 0 rfl rfl rfl dX0_begin_51 ?_
      refine lv_icmp_ge (tgt := 68) hx hb dX0_begin_52 (by decide) (fun c_4 => ?_) (fun c_4 => ?_)
      · replace hf := (if_pos c_4).symm.trans hf
        replace hf := Option.some.inj hf
        subst hf
        exact hex_46 H locs ls (lv_sub hl [0, 1, 2] rfl) hP hD hS
      · replace hf := (if_neg c_4).symm.trans hf
        refine lv_aload_n hx hb dX0_begin_55 rfl (lv_at hl 1 rfl) ?_
        refine va_get (D := (dC, dI)) (ci := 0) (v := .ref b2) (C := RX0) (T := TX0) (N := 6) hx hb hts hi0 hown hK hP 0 rfl rfl 1 (by decide) (hts (.fieldLink RX0 15 RX0 "wear" "[I") (by decide +kernel)) (fun _ h9 => h9) rfl dX0_begin_56 ?_
        refine lv_iload_n hx hb dX0_begin_59 rfl (lv_at hl 0 rfl) ?_
        refine lv_iconst (v := 0) hx hb dX0_begin_60 (by decide) ?_
        by_cases nc_5 : ¬ q_ix i2_46 8 = true
        · replace hf := (if_neg nc_5).symm.trans hf
          cases hf
        have c_5 := Classical.not_not.mp nc_5
        replace hf := (if_pos c_5).symm.trans hf
        refine va_iast hx hb hK hP hD hS 2 0 rfl rfl (q_ix_in c_5) dX0_begin_61 (fun H locs hP hD hS => ?_)
        have hP : va_P (dC, dI) vwCl (wBd b0 b1 b2 cI (B_46.1, (upd B_46.2.1 i2_46.toNatClampNeg 0), B_46.2.2.1, B_46.2.2.2.1, B_46.2.2.2.2.1, B_46.2.2.2.2.2)) H := hP
        have hD : va_D A (wBd b0 b1 b2 cI (B_46.1, (upd B_46.2.1 i2_46.toNatClampNeg 0), B_46.2.2.1, B_46.2.2.2.1, B_46.2.2.2.2.1, B_46.2.2.2.2.2)) := hD
        refine lv_iinc (v := i2_46 + 1) (lv' := [(2, .int (i2_46 + 1)), (0, .ref b0), (1, .int x0)]) hx hb dX0_begin_62 hl (k := 0) rfl rfl (by decide) rfl (fun ls hl => ?_)
        refine lv_goto (tgt := 46) hx hb dX0_begin_65 (by decide) ?_
        exact ih (i2_46 + 1) (B_46.1, (upd B_46.2.1 i2_46.toNatClampNeg 0), B_46.2.2.1, B_46.2.2.2.1, B_46.2.2.2.2.1, B_46.2.2.2.2.2) H locs ls _ (lv_sub hl [0, 1, 2] rfl) hP hD hS hf hex_46
  obtain ⟨z_6, hz_6, hf⟩ := Option.bind_eq_some_iff.mp hf
  refine L_46 1000 0 z_3.2 H locs ls z_6 (lv_sub hl [0, 1, 2] rfl) hP hD hS hz_6 (fun H locs ls hl hP hD hS => ?_)
  replace hf := Option.some.inj hf
  subst hf
  exact W.vret hx hb hr (fun t ht hW => ⟨⟨(), rfl, trivial, ⟨by rw [ht]; exact hP, va_K.moved hW.alike hK, hD⟩⟩, hS.F ht⟩) hS.2.2 dX0_begin_68
def f_X0_faceOf (B : q_Bd) (x0 : Int32) (x1 : Int32) : Int32 := (if (lg_cmp (B.2.2.2.1 &&& (f_X5_dotIn x0 x1)) 0) = 0 then 0 else 1)
set_option maxHeartbeats 4000000 in
set_option maxRecDepth 100000 in
theorem c_X0_faceOf (l : Launch) (dC : Nat → ClassId) (dI : Nat → Nat → Nat) (cI cJ : ClassId) (b0 : Nat) (b1 : Nat) (b2 : Nat) (B : q_Bd) (x0 : Int32) (x1 : Int32) : Met l yX0_faceOf wsX0_faceOf ({ frames := 2, cells := 0, slots := 0, locals := 42 } : Room) (va_Pc [.ref b0, .int x0, .int x1] (q_B (dC, dI) vwCl (wBd b0 b1 b2 cI B) (q_ty cI cJ))) (k2_QcV (.int (f_X0_faceOf B x0 x1))) 0 0 (fun _ => False) := by
  refine Met.ofW (cc := cX0_faceOf) (maxL := 3) (ret := (some .int)) (by decide) rfl ?_
  intro p e s m args below meth c s₁ BB hml hv
  obtain ⟨rfl, hP, hK, hn⟩ := hv
  have hx := BB.exec
  have hb := BB.bytes
  have hr := BB.returns
  have hts := atoms_spec (ws := wsX0_faceOf) BB.pre
  have hown : s.vm.findClass RX0 = some m.cls := findClass_of_methodNamed BB.named
  have hlocks := BB.notSynchronized
  have hi0 : ∀ w ∈ u_ws RX0 TX0 6, w ∈ wsX0_faceOf := by decide +kernel
  have hl := lv_entry [.ref b0, .int x0, .int x1] (n := 3) (Nat.le_of_ble_eq_true rfl)
  rw [lg_entry_eq]
  generalize (lg_sl [.ref b0, .int x0, .int x1] ++ List.replicate (3 - (lg_sl [.ref b0, .int x0, .int x1]).length) Slot.unset).toArray = ls at hl ⊢
  have hl : lv_has ls 3 [(0, .ref b0), (1, .int x0), (2, .int x1)] := hl
  generalize hf : f_X0_faceOf B x0 x1 = r0
  unfold f_X0_faceOf at hf
  refine lv_aload_n hx hb dX0_faceOf_0 rfl (lv_at hl 0 rfl) ?_
  refine va_get (D := (dC, dI)) (ci := 0) (v := .long B.2.2.2.1) (C := RX0) (T := TX0) (N := 6) hx hb hts hi0 hown hK hP 0 rfl rfl 3 (by decide) (hts (.fieldLink RX0 22 RX0 "picture" "J") (by decide +kernel)) (fun _ h9 => h9) rfl dX0_faceOf_1 ?_
  refine lv_iload_n hx hb dX0_faceOf_4 rfl (lv_at hl 1 rfl) ?_
  refine lv_iload_n hx hb dX0_faceOf_5 rfl (lv_at hl 2 rfl) ?_
  refine q_rSN (As := [.int x0, .int x1]) (rest := [.long B.2.2.2.1]) ⟨hx, hb, hml, hown, hts⟩ (c_X5_dotIn l dC dI cI cJ x0 x1) ⟨va_cnB 2 hts gX0_faceOf_X5_dotIn_n32 rfl rfl rfl (nm_RX0_32 hn) (hts (.initialized RX5) (by decide +kernel)) (by decide +kernel) ⟨Nat.le_of_ble_eq_true rfl, Nat.le_of_ble_eq_true rfl⟩, hts (.static yX5_dotIn) (by decide +kernel), trivial⟩ hK hn (hP.sub (ws' := []) [] rfl) rfl hl.1 rfl (Nat.le_of_ble_eq_true rfl) dX0_faceOf_6 ⟨Nat.zero_le _, Nat.zero_le _⟩ ?_
  refine lv_land hx hb dX0_faceOf_9 ?_
  refine lv_lconst (v := 0) hx hb dX0_faceOf_10 (by decide) ?_
  refine W.lcmp hx hb dX0_faceOf_11 ?_
  refine lv_if_ne (tgt := 19) hx hb dX0_faceOf_12 (by decide) (fun c_1 => ?_) (fun c_1 => ?_)
  · replace hf := (if_neg c_1).symm.trans hf
    refine lv_iconst (v := 1) hx hb dX0_faceOf_19 (by decide) ?_
    exact W.iret (v := 1) hx hb hr (fun t ht hW => ⟨congrArg (fun z => Outcome.returned (some (.int z))) hf, ht⟩) (fun q h => absurd h List.not_mem_nil) dX0_faceOf_20
  · replace hf := (if_pos c_1).symm.trans hf
    refine lv_iconst (v := 0) hx hb dX0_faceOf_15 (by decide) ?_
    refine lv_goto (tgt := 20) hx hb dX0_faceOf_16 (by decide) ?_
    exact W.iret (v := 0) hx hb hr (fun t ht hW => ⟨congrArg (fun z => Outcome.returned (some (.int z))) hf, ht⟩) (fun q h => absurd h List.not_mem_nil) dX0_faceOf_20
def f_X0_stuckFaceOf (B : q_Bd) (x0 : Int32) (x1 : Int32) : Int32 := (if (lg_cmp (B.2.2.2.2.1 &&& (f_X5_dotIn x0 x1)) 0) = 0 then (-1) else (if (lg_cmp (B.2.2.2.2.2 &&& (f_X5_dotIn x0 x1)) 0) = 0 then 0 else 1))
set_option maxHeartbeats 4000000 in
set_option maxRecDepth 100000 in
theorem c_X0_stuckFaceOf (l : Launch) (dC : Nat → ClassId) (dI : Nat → Nat → Nat) (cI cJ : ClassId) (b0 : Nat) (b1 : Nat) (b2 : Nat) (B : q_Bd) (x0 : Int32) (x1 : Int32) : Met l yX0_stuckFaceOf wsX0_stuckFaceOf ({ frames := 2, cells := 0, slots := 0, locals := 42 } : Room) (va_Pc [.ref b0, .int x0, .int x1] (q_B (dC, dI) vwCl (wBd b0 b1 b2 cI B) (q_ty cI cJ))) (k2_QcV (.int (f_X0_stuckFaceOf B x0 x1))) 0 0 (fun _ => False) := by
  refine Met.ofW (cc := cX0_stuckFaceOf) (maxL := 5) (ret := (some .int)) (by decide) rfl ?_
  intro p e s m args below meth c s₁ BB hml hv
  obtain ⟨rfl, hP, hK, hn⟩ := hv
  have hx := BB.exec
  have hb := BB.bytes
  have hr := BB.returns
  have hts := atoms_spec (ws := wsX0_stuckFaceOf) BB.pre
  have hown : s.vm.findClass RX0 = some m.cls := findClass_of_methodNamed BB.named
  have hlocks := BB.notSynchronized
  have hi0 : ∀ w ∈ u_ws RX0 TX0 6, w ∈ wsX0_stuckFaceOf := by decide +kernel
  have hl := lv_entry [.ref b0, .int x0, .int x1] (n := 5) (Nat.le_of_ble_eq_true rfl)
  rw [lg_entry_eq]
  generalize (lg_sl [.ref b0, .int x0, .int x1] ++ List.replicate (5 - (lg_sl [.ref b0, .int x0, .int x1]).length) Slot.unset).toArray = ls at hl ⊢
  have hl : lv_has ls 5 [(0, .ref b0), (1, .int x0), (2, .int x1)] := hl
  generalize hf : f_X0_stuckFaceOf B x0 x1 = r0
  unfold f_X0_stuckFaceOf at hf
  refine lv_iload_n hx hb dX0_stuckFaceOf_0 rfl (lv_at hl 1 rfl) ?_
  refine lv_iload_n hx hb dX0_stuckFaceOf_1 rfl (lv_at hl 2 rfl) ?_
  refine q_rSN (As := [.int x0, .int x1]) (rest := []) ⟨hx, hb, hml, hown, hts⟩ (c_X5_dotIn l dC dI cI cJ x0 x1) ⟨va_cnB 2 hts gX0_stuckFaceOf_X5_dotIn_n32 rfl rfl rfl (nm_RX0_32 hn) (hts (.initialized RX5) (by decide +kernel)) (by decide +kernel) ⟨Nat.le_of_ble_eq_true rfl, Nat.le_of_ble_eq_true rfl⟩, hts (.static yX5_dotIn) (by decide +kernel), trivial⟩ hK hn (hP.sub (ws' := []) [] rfl) rfl hl.1 rfl (Nat.le_of_ble_eq_true rfl) dX0_stuckFaceOf_2 ⟨Nat.zero_le _, Nat.zero_le _⟩ ?_
  refine lv_lstore_n (lv' := [(3, .long (f_X5_dotIn x0 x1)), (0, .ref b0), (1, .int x0), (2, .int x1)]) hx hb dX0_stuckFaceOf_5 rfl hl (by decide) rfl (fun ls hl => ?_)
  refine lv_aload_n hx hb dX0_stuckFaceOf_6 rfl (lv_at hl 1 rfl) ?_
  refine va_get (D := (dC, dI)) (ci := 0) (v := .long B.2.2.2.2.1) (C := RX0) (T := TX0) (N := 6) hx hb hts hi0 hown hK hP 0 rfl rfl 4 (by decide) (hts (.fieldLink RX0 26 RX0 "stuck" "J") (by decide +kernel)) (fun _ h9 => h9) rfl dX0_stuckFaceOf_7 ?_
  refine lv_lload_n hx hb dX0_stuckFaceOf_10 rfl (lv_at hl 0 rfl) ?_
  refine lv_land hx hb dX0_stuckFaceOf_11 ?_
  refine lv_lconst (v := 0) hx hb dX0_stuckFaceOf_12 (by decide) ?_
  refine W.lcmp hx hb dX0_stuckFaceOf_13 ?_
  refine lv_if_ne (tgt := 19) hx hb dX0_stuckFaceOf_14 (by decide) (fun c_1 => ?_) (fun c_1 => ?_)
  · replace hf := (if_neg c_1).symm.trans hf
    refine lv_aload_n hx hb dX0_stuckFaceOf_19 rfl (lv_at hl 1 rfl) ?_
    refine va_get (D := (dC, dI)) (ci := 0) (v := .long B.2.2.2.2.2) (C := RX0) (T := TX0) (N := 6) hx hb hts hi0 hown hK hP 0 rfl rfl 5 (by decide) (hts (.fieldLink RX0 29 RX0 "stuckBright" "J") (by decide +kernel)) (fun _ h9 => h9) rfl dX0_stuckFaceOf_20 ?_
    refine lv_lload_n hx hb dX0_stuckFaceOf_23 rfl (lv_at hl 0 rfl) ?_
    refine lv_land hx hb dX0_stuckFaceOf_24 ?_
    refine lv_lconst (v := 0) hx hb dX0_stuckFaceOf_25 (by decide) ?_
    refine W.lcmp hx hb dX0_stuckFaceOf_26 ?_
    refine lv_if_ne (tgt := 34) hx hb dX0_stuckFaceOf_27 (by decide) (fun c_2 => ?_) (fun c_2 => ?_)
    · replace hf := (if_neg c_2).symm.trans hf
      refine lv_iconst (v := 1) hx hb dX0_stuckFaceOf_34 (by decide) ?_
      exact W.iret (v := 1) hx hb hr (fun t ht hW => ⟨congrArg (fun z => Outcome.returned (some (.int z))) hf, ht⟩) (fun q h => absurd h List.not_mem_nil) dX0_stuckFaceOf_35
    · replace hf := (if_pos c_2).symm.trans hf
      refine lv_iconst (v := 0) hx hb dX0_stuckFaceOf_30 (by decide) ?_
      refine lv_goto (tgt := 35) hx hb dX0_stuckFaceOf_31 (by decide) ?_
      exact W.iret (v := 0) hx hb hr (fun t ht hW => ⟨congrArg (fun z => Outcome.returned (some (.int z))) hf, ht⟩) (fun q h => absurd h List.not_mem_nil) dX0_stuckFaceOf_35
  · replace hf := (if_pos c_1).symm.trans hf
    refine lv_iconst (v := (-1)) hx hb dX0_stuckFaceOf_17 (by decide) ?_
    exact W.iret (v := (-1)) hx hb hr (fun t ht hW => ⟨congrArg (fun z => Outcome.returned (some (.int z))) hf, ht⟩) (fun q h => absurd h List.not_mem_nil) dX0_stuckFaceOf_18
def f_X0_withStuck (B : q_Bd) (x0 : Int64) : Int64 := (x0 &&& (B.2.2.2.2.1 ^^^ (-1))) ||| B.2.2.2.2.2
set_option maxHeartbeats 4000000 in
set_option maxRecDepth 100000 in
theorem c_X0_withStuck (l : Launch) (dC : Nat → ClassId) (dI : Nat → Nat → Nat) (cI cJ : ClassId) (b0 : Nat) (b1 : Nat) (b2 : Nat) (B : q_Bd) (x0 : Int64) : Met l yX0_withStuck wsX0_withStuck ({ frames := 0, cells := 0, slots := 0, locals := 0 } : Room) (va_Pc [.ref b0, .long x0] (q_B (dC, dI) vwCl (wBd b0 b1 b2 cI B) (q_ty cI cJ))) (k2_QcV (.long (f_X0_withStuck B x0))) 0 0 (fun _ => False) := by
  refine Met.ofW (cc := cX0_withStuck) (maxL := 3) (ret := (some .long)) (by decide) rfl ?_
  intro p e s m args below meth c s₁ BB hml hv
  obtain ⟨rfl, hP, hK, hn⟩ := hv
  have hx := BB.exec
  have hb := BB.bytes
  have hr := BB.returns
  have hts := atoms_spec (ws := wsX0_withStuck) BB.pre
  have hown : s.vm.findClass RX0 = some m.cls := findClass_of_methodNamed BB.named
  have hlocks := BB.notSynchronized
  have hi0 : ∀ w ∈ u_ws RX0 TX0 6, w ∈ wsX0_withStuck := by decide +kernel
  have hl := lv_entry [.ref b0, .long x0] (n := 3) (Nat.le_of_ble_eq_true rfl)
  rw [lg_entry_eq]
  generalize (lg_sl [.ref b0, .long x0] ++ List.replicate (3 - (lg_sl [.ref b0, .long x0]).length) Slot.unset).toArray = ls at hl ⊢
  have hl : lv_has ls 3 [(0, .ref b0), (1, .long x0)] := hl
  generalize hf : f_X0_withStuck B x0 = r0
  unfold f_X0_withStuck at hf
  refine lv_lload_n hx hb dX0_withStuck_0 rfl (lv_at hl 1 rfl) ?_
  refine lv_aload_n hx hb dX0_withStuck_1 rfl (lv_at hl 0 rfl) ?_
  refine va_get (D := (dC, dI)) (ci := 0) (v := .long B.2.2.2.2.1) (C := RX0) (T := TX0) (N := 6) hx hb hts hi0 hown hK hP 0 rfl rfl 4 (by decide) (hts (.fieldLink RX0 26 RX0 "stuck" "J") (by decide +kernel)) (fun _ h9 => h9) rfl dX0_withStuck_2 ?_
  refine lv_ldc2 hx hb hown (hts (.constantLong RX0 36 (-1)) (by decide +kernel)) dX0_withStuck_5 ?_
  refine lv_lxor hx hb dX0_withStuck_8 ?_
  refine lv_land hx hb dX0_withStuck_9 ?_
  refine lv_aload_n hx hb dX0_withStuck_10 rfl (lv_at hl 0 rfl) ?_
  refine va_get (D := (dC, dI)) (ci := 0) (v := .long B.2.2.2.2.2) (C := RX0) (T := TX0) (N := 6) hx hb hts hi0 hown hK hP 0 rfl rfl 5 (by decide) (hts (.fieldLink RX0 29 RX0 "stuckBright" "J") (by decide +kernel)) (fun _ h9 => h9) rfl dX0_withStuck_11 ?_
  refine lv_lor hx hb dX0_withStuck_14 ?_
  exact W.lret (v := (x0 &&& (B.2.2.2.2.1 ^^^ (-1))) ||| B.2.2.2.2.2) hx hb hr (fun t ht hW => ⟨congrArg (fun z => Outcome.returned (some (.long z))) hf, ht⟩) (fun q h => absurd h List.not_mem_nil) dX0_withStuck_15
def f_X0_fix (B : q_Bd) (x0 : Int32) (x1 : Int32) (x2 : Int32) : q_Bd := (if x2 = (-1) then (if x2 = 1 then (B.1, B.2.1, B.2.2.1, (f_X0_withStuck (B.1, B.2.1, B.2.2.1, B.2.2.2.1, B.2.2.2.2.1 &&& ((f_X5_dotIn x0 x1) ^^^ (-1)), B.2.2.2.2.2 ||| (f_X5_dotIn x0 x1)) B.2.2.2.1), B.2.2.2.2.1 &&& ((f_X5_dotIn x0 x1) ^^^ (-1)), B.2.2.2.2.2 ||| (f_X5_dotIn x0 x1)) else (B.1, B.2.1, B.2.2.1, (f_X0_withStuck (B.1, B.2.1, B.2.2.1, B.2.2.2.1, B.2.2.2.2.1 &&& ((f_X5_dotIn x0 x1) ^^^ (-1)), B.2.2.2.2.2 &&& ((f_X5_dotIn x0 x1) ^^^ (-1))) B.2.2.2.1), B.2.2.2.2.1 &&& ((f_X5_dotIn x0 x1) ^^^ (-1)), B.2.2.2.2.2 &&& ((f_X5_dotIn x0 x1) ^^^ (-1)))) else (if x2 = 1 then (B.1, B.2.1, B.2.2.1, (f_X0_withStuck (B.1, B.2.1, B.2.2.1, B.2.2.2.1, B.2.2.2.2.1 ||| (f_X5_dotIn x0 x1), B.2.2.2.2.2 ||| (f_X5_dotIn x0 x1)) B.2.2.2.1), B.2.2.2.2.1 ||| (f_X5_dotIn x0 x1), B.2.2.2.2.2 ||| (f_X5_dotIn x0 x1)) else (B.1, B.2.1, B.2.2.1, (f_X0_withStuck (B.1, B.2.1, B.2.2.1, B.2.2.2.1, B.2.2.2.2.1 ||| (f_X5_dotIn x0 x1), B.2.2.2.2.2 &&& ((f_X5_dotIn x0 x1) ^^^ (-1))) B.2.2.2.1), B.2.2.2.2.1 ||| (f_X5_dotIn x0 x1), B.2.2.2.2.2 &&& ((f_X5_dotIn x0 x1) ^^^ (-1)))))
set_option maxHeartbeats 4000000 in
set_option maxRecDepth 100000 in
theorem c_X0_fix (l : Launch) (dC : Nat → ClassId) (dI : Nat → Nat → Nat) (cI cJ : ClassId) (b0 : Nat) (b1 : Nat) (b2 : Nat) (sz : Nat) (B : q_Bd) (x0 : Int32) (x1 : Int32) (x2 : Int32) : Met l yX0_fix wsX0_fix ({ frames := 2, cells := 0, slots := 0, locals := 42 } : Room) (va_Pc [.ref b0, .int x0, .int x1, .int x2] (q_W (dC, dI) vwCl (wBd b0 b1 b2 cI B) (q_ty cI cJ) sz)) (va_Qv (S := Unit) (fun _ => True) (fun _ => q_E (dC, dI) vwCl (wBd b0 b1 b2 cI (f_X0_fix B x0 x1 x2)) (q_ty cI cJ) (va_A (wBd b0 b1 b2 cI B) sz)) (va_A (wBd b0 b1 b2 cI B) sz)) 0 0 (va_A (wBd b0 b1 b2 cI B) sz) := by
  refine Met.ofW (cc := cX0_fix) (maxL := 6) (ret := none) (by decide) rfl ?_
  intro p e s m args below meth c s₁ BB hml hv
  obtain ⟨rfl, hsz, hP, hK, hn, hD0⟩ := hv
  have hx := BB.exec
  have hb := BB.bytes
  have hr := BB.returns
  have hts := atoms_spec (ws := wsX0_fix) BB.pre
  have hown : s.vm.findClass RX0 = some m.cls := findClass_of_methodNamed BB.named
  have hlocks := BB.notSynchronized
  subst hsz
  have hD := hD0.self (sz := s.heap.size)
  generalize hAe : va_A (wBd b0 b1 b2 cI B) s.heap.size = A at hD ⊢
  have hA : ∀ q : Nat, s.heap.size ≤ q → A q := fun q h => by rw [← hAe]; exact Or.inr h
  have hS : va_S A s.heap s.heap [] := va_S.rf
  have hi0 : ∀ w ∈ u_ws RX0 TX0 6, w ∈ wsX0_fix := by decide +kernel
  have hl := lv_entry [.ref b0, .int x0, .int x1, .int x2] (n := 6) (Nat.le_of_ble_eq_true rfl)
  rw [lg_entry_eq]
  generalize (lg_sl [.ref b0, .int x0, .int x1, .int x2] ++ List.replicate (6 - (lg_sl [.ref b0, .int x0, .int x1, .int x2]).length) Slot.unset).toArray = ls at hl ⊢
  have hl : lv_has ls 6 [(0, .ref b0), (1, .int x0), (2, .int x1), (3, .int x2)] := hl
  generalize hf : f_X0_fix B x0 x1 x2 = r0
  obtain ⟨H, hH⟩ : ∃ H, H = s.heap := ⟨_, rfl⟩
  obtain ⟨locs, hlocs⟩ : ∃ x : List Loc, x = [] := ⟨_, rfl⟩
  rw [← hH] at hP
  have hS : va_S A s.heap H locs := by rw [hH, hlocs]; exact hS
  suffices hgoal : ∀ (H : Heap) (locs : List Loc), va_P (dC, dI) vwCl (wBd b0 b1 b2 cI B) H → va_S A s.heap H locs → W p l e (headSpec wsX0_fix ({ frames := 2, cells := 0, slots := 0, locals := 42 } : Room)).room s m [.ref b0, .int x0, .int x1, .int x2].toArray below meth c H locs 0 0 (MQ below (va_Qv (S := Unit) (fun _ => True) (fun _ => q_E (dC, dI) vwCl (wBd b0 b1 b2 cI r0) (q_ty cI cJ) A) A) [.ref b0, .int x0, .int x1, .int x2].toArray s 0 0 A) (F0 m 0 ls []) by
    have h9 := hgoal H locs hP hS
    rw [hH, hlocs] at h9
    exact h9
  clear hP hS hH H hlocs locs
  intro H locs hP hS
  unfold f_X0_fix at hf
  refine lv_iload_n hx hb dX0_fix_0 rfl (lv_at hl 1 rfl) ?_
  refine lv_iload_n hx hb dX0_fix_1 rfl (lv_at hl 2 rfl) ?_
  refine q_rSN (As := [.int x0, .int x1]) (rest := []) ⟨hx, hb, hml, hown, hts⟩ (c_X5_dotIn l dC dI cI cJ x0 x1) ⟨va_cnB 2 hts gX0_fix_X5_dotIn_n32 rfl rfl rfl (nm_RX0_32 hn) (hts (.initialized RX5) (by decide +kernel)) (by decide +kernel) ⟨Nat.le_of_ble_eq_true rfl, Nat.le_of_ble_eq_true rfl⟩, hts (.static yX5_dotIn) (by decide +kernel), trivial⟩ hK hn (hP.sub (ws' := []) [] rfl) rfl hl.1 rfl (Nat.le_of_ble_eq_true rfl) dX0_fix_2 ⟨Nat.zero_le _, Nat.zero_le _⟩ ?_
  refine lv_lstore (lv' := [(4, .long (f_X5_dotIn x0 x1)), (0, .ref b0), (1, .int x0), (2, .int x1), (3, .int x2)]) hx hb dX0_fix_5 hl (by decide) rfl (fun ls hl => ?_)
  refine lv_aload_n hx hb dX0_fix_7 rfl (lv_at hl 1 rfl) ?_
  refine lv_iload_n hx hb dX0_fix_8 rfl (lv_at hl 4 rfl) ?_
  refine lv_iconst (v := (-1)) hx hb dX0_fix_9 (by decide) ?_
  refine lv_icmp_ne (tgt := 27) hx hb dX0_fix_10 (by decide) (fun c_1 => ?_) (fun c_1 => ?_)
  · replace hf := (if_neg c_1).symm.trans hf
    refine lv_aload_n hx hb dX0_fix_27 rfl (lv_at hl 1 rfl) ?_
    refine va_get (D := (dC, dI)) (ci := 0) (v := .long B.2.2.2.2.1) (C := RX0) (T := TX0) (N := 6) hx hb hts hi0 hown hK hP 0 rfl rfl 4 (by decide) (hts (.fieldLink RX0 26 RX0 "stuck" "J") (by decide +kernel)) (fun _ h9 => h9) rfl dX0_fix_28 ?_
    refine lv_lload hx hb dX0_fix_31 (lv_at hl 0 rfl) ?_
    refine lv_lor hx hb dX0_fix_33 ?_
    refine va_put (D := (dC, dI)) (ci := 0) (v := .long (B.2.2.2.2.1 ||| (f_X5_dotIn x0 x1))) (ty := .long) (C := RX0) (T := TX0) (N := 6) hx hb hts hi0 tyX0 tyX0_ok nmX0 hown hK hP hD hS 0 rfl rfl 4 (by decide) (hts (.fieldLink RX0 26 RX0 "stuck" "J") (by decide +kernel)) (fun _ h9 => h9) rfl (by decide +kernel) rfl rfl (Nat.le_of_ble_eq_true rfl) dX0_fix_34 (fun H locs hP hD hS => ?_)
    have hP : va_P (dC, dI) vwCl (wBd b0 b1 b2 cI (B.1, B.2.1, B.2.2.1, B.2.2.2.1, B.2.2.2.2.1 ||| (f_X5_dotIn x0 x1), B.2.2.2.2.2)) H := hP
    have hD : va_D A (wBd b0 b1 b2 cI (B.1, B.2.1, B.2.2.1, B.2.2.2.1, B.2.2.2.2.1 ||| (f_X5_dotIn x0 x1), B.2.2.2.2.2)) := hD
    refine lv_aload_n hx hb dX0_fix_37 rfl (lv_at hl 1 rfl) ?_
    refine lv_iload_n hx hb dX0_fix_38 rfl (lv_at hl 4 rfl) ?_
    refine lv_iconst (v := 1) hx hb dX0_fix_39 (by decide) ?_
    refine lv_icmp_ne (tgt := 53) hx hb dX0_fix_40 (by decide) (fun c_2 => ?_) (fun c_2 => ?_)
    · replace hf := (if_neg c_2).symm.trans hf
      refine lv_aload_n hx hb dX0_fix_53 rfl (lv_at hl 1 rfl) ?_
      refine va_get (D := (dC, dI)) (ci := 0) (v := .long B.2.2.2.2.2) (C := RX0) (T := TX0) (N := 6) hx hb hts hi0 hown hK hP 0 rfl rfl 5 (by decide) (hts (.fieldLink RX0 29 RX0 "stuckBright" "J") (by decide +kernel)) (fun _ h9 => h9) rfl dX0_fix_54 ?_
      refine lv_lload hx hb dX0_fix_57 (lv_at hl 0 rfl) ?_
      refine lv_ldc2 hx hb hown (hts (.constantLong RX0 36 (-1)) (by decide +kernel)) dX0_fix_59 ?_
      refine lv_lxor hx hb dX0_fix_62 ?_
      refine lv_land hx hb dX0_fix_63 ?_
      refine va_put (D := (dC, dI)) (ci := 0) (v := .long (B.2.2.2.2.2 &&& ((f_X5_dotIn x0 x1) ^^^ (-1)))) (ty := .long) (C := RX0) (T := TX0) (N := 6) hx hb hts hi0 tyX0 tyX0_ok nmX0 hown hK hP hD hS 0 rfl rfl 5 (by decide) (hts (.fieldLink RX0 29 RX0 "stuckBright" "J") (by decide +kernel)) (fun _ h9 => h9) rfl (by decide +kernel) rfl rfl (Nat.le_of_ble_eq_true rfl) dX0_fix_64 (fun H locs hP hD hS => ?_)
      have hP : va_P (dC, dI) vwCl (wBd b0 b1 b2 cI (B.1, B.2.1, B.2.2.1, B.2.2.2.1, B.2.2.2.2.1 ||| (f_X5_dotIn x0 x1), B.2.2.2.2.2 &&& ((f_X5_dotIn x0 x1) ^^^ (-1)))) H := hP
      have hD : va_D A (wBd b0 b1 b2 cI (B.1, B.2.1, B.2.2.1, B.2.2.2.1, B.2.2.2.2.1 ||| (f_X5_dotIn x0 x1), B.2.2.2.2.2 &&& ((f_X5_dotIn x0 x1) ^^^ (-1)))) := hD
      refine lv_aload_n hx hb dX0_fix_67 rfl (lv_at hl 1 rfl) ?_
      refine lv_aload_n hx hb dX0_fix_68 rfl (lv_at hl 1 rfl) ?_
      refine lv_aload_n hx hb dX0_fix_69 rfl (lv_at hl 1 rfl) ?_
      refine va_get (D := (dC, dI)) (ci := 0) (v := .long B.2.2.2.1) (C := RX0) (T := TX0) (N := 6) hx hb hts hi0 hown hK hP 0 rfl rfl 3 (by decide) (hts (.fieldLink RX0 22 RX0 "picture" "J") (by decide +kernel)) (fun _ h9 => h9) rfl dX0_fix_70 ?_
      refine q_rV (As := [.long B.2.2.2.1]) (rest := [.ref b0]) ⟨hx, hb, hml, hown, hts⟩ (c_X0_withStuck l dC dI cI cJ b0 b1 b2 (B.1, B.2.1, B.2.2.1, B.2.2.2.1, B.2.2.2.2.1 ||| (f_X5_dotIn x0 x1), B.2.2.2.2.2 &&& ((f_X5_dotIn x0 x1) ^^^ (-1))) B.2.2.2.1) (cwV 1 hts gX0_fix_X0_withStuck rfl rfl rfl (by decide +kernel) ⟨Nat.le_of_ble_eq_true rfl, Nat.le_of_ble_eq_true rfl⟩) hK hn hP (ci := 0) rfl rfl rfl hl.1 rfl (Nat.le_of_ble_eq_true rfl) dX0_fix_73 ⟨Nat.zero_le _, Nat.zero_le _⟩ ?_
      refine va_put (D := (dC, dI)) (ci := 0) (v := .long (f_X0_withStuck (B.1, B.2.1, B.2.2.1, B.2.2.2.1, B.2.2.2.2.1 ||| (f_X5_dotIn x0 x1), B.2.2.2.2.2 &&& ((f_X5_dotIn x0 x1) ^^^ (-1))) B.2.2.2.1)) (ty := .long) (C := RX0) (T := TX0) (N := 6) hx hb hts hi0 tyX0 tyX0_ok nmX0 hown hK hP hD hS 0 rfl rfl 3 (by decide) (hts (.fieldLink RX0 22 RX0 "picture" "J") (by decide +kernel)) (fun _ h9 => h9) rfl (by decide +kernel) rfl rfl (Nat.le_of_ble_eq_true rfl) dX0_fix_76 (fun H locs hP hD hS => ?_)
      have hP : va_P (dC, dI) vwCl (wBd b0 b1 b2 cI (B.1, B.2.1, B.2.2.1, (f_X0_withStuck (B.1, B.2.1, B.2.2.1, B.2.2.2.1, B.2.2.2.2.1 ||| (f_X5_dotIn x0 x1), B.2.2.2.2.2 &&& ((f_X5_dotIn x0 x1) ^^^ (-1))) B.2.2.2.1), B.2.2.2.2.1 ||| (f_X5_dotIn x0 x1), B.2.2.2.2.2 &&& ((f_X5_dotIn x0 x1) ^^^ (-1)))) H := hP
      have hD : va_D A (wBd b0 b1 b2 cI (B.1, B.2.1, B.2.2.1, (f_X0_withStuck (B.1, B.2.1, B.2.2.1, B.2.2.2.1, B.2.2.2.2.1 ||| (f_X5_dotIn x0 x1), B.2.2.2.2.2 &&& ((f_X5_dotIn x0 x1) ^^^ (-1))) B.2.2.2.1), B.2.2.2.2.1 ||| (f_X5_dotIn x0 x1), B.2.2.2.2.2 &&& ((f_X5_dotIn x0 x1) ^^^ (-1)))) := hD
      subst hf
      exact W.vret hx hb hr (fun t ht hW => ⟨⟨(), rfl, trivial, ⟨by rw [ht]; exact hP, va_K.moved hW.alike hK, hD⟩⟩, hS.F ht⟩) hS.2.2 dX0_fix_79
    · replace hf := (if_pos c_2).symm.trans hf
      refine lv_aload_n hx hb dX0_fix_43 rfl (lv_at hl 1 rfl) ?_
      refine va_get (D := (dC, dI)) (ci := 0) (v := .long B.2.2.2.2.2) (C := RX0) (T := TX0) (N := 6) hx hb hts hi0 hown hK hP 0 rfl rfl 5 (by decide) (hts (.fieldLink RX0 29 RX0 "stuckBright" "J") (by decide +kernel)) (fun _ h9 => h9) rfl dX0_fix_44 ?_
      refine lv_lload hx hb dX0_fix_47 (lv_at hl 0 rfl) ?_
      refine lv_lor hx hb dX0_fix_49 ?_
      refine lv_goto (tgt := 64) hx hb dX0_fix_50 (by decide) ?_
      refine va_put (D := (dC, dI)) (ci := 0) (v := .long (B.2.2.2.2.2 ||| (f_X5_dotIn x0 x1))) (ty := .long) (C := RX0) (T := TX0) (N := 6) hx hb hts hi0 tyX0 tyX0_ok nmX0 hown hK hP hD hS 0 rfl rfl 5 (by decide) (hts (.fieldLink RX0 29 RX0 "stuckBright" "J") (by decide +kernel)) (fun _ h9 => h9) rfl (by decide +kernel) rfl rfl (Nat.le_of_ble_eq_true rfl) dX0_fix_64 (fun H locs hP hD hS => ?_)
      have hP : va_P (dC, dI) vwCl (wBd b0 b1 b2 cI (B.1, B.2.1, B.2.2.1, B.2.2.2.1, B.2.2.2.2.1 ||| (f_X5_dotIn x0 x1), B.2.2.2.2.2 ||| (f_X5_dotIn x0 x1))) H := hP
      have hD : va_D A (wBd b0 b1 b2 cI (B.1, B.2.1, B.2.2.1, B.2.2.2.1, B.2.2.2.2.1 ||| (f_X5_dotIn x0 x1), B.2.2.2.2.2 ||| (f_X5_dotIn x0 x1))) := hD
      refine lv_aload_n hx hb dX0_fix_67 rfl (lv_at hl 1 rfl) ?_
      refine lv_aload_n hx hb dX0_fix_68 rfl (lv_at hl 1 rfl) ?_
      refine lv_aload_n hx hb dX0_fix_69 rfl (lv_at hl 1 rfl) ?_
      refine va_get (D := (dC, dI)) (ci := 0) (v := .long B.2.2.2.1) (C := RX0) (T := TX0) (N := 6) hx hb hts hi0 hown hK hP 0 rfl rfl 3 (by decide) (hts (.fieldLink RX0 22 RX0 "picture" "J") (by decide +kernel)) (fun _ h9 => h9) rfl dX0_fix_70 ?_
      refine q_rV (As := [.long B.2.2.2.1]) (rest := [.ref b0]) ⟨hx, hb, hml, hown, hts⟩ (c_X0_withStuck l dC dI cI cJ b0 b1 b2 (B.1, B.2.1, B.2.2.1, B.2.2.2.1, B.2.2.2.2.1 ||| (f_X5_dotIn x0 x1), B.2.2.2.2.2 ||| (f_X5_dotIn x0 x1)) B.2.2.2.1) (cwV 1 hts gX0_fix_X0_withStuck rfl rfl rfl (by decide +kernel) ⟨Nat.le_of_ble_eq_true rfl, Nat.le_of_ble_eq_true rfl⟩) hK hn hP (ci := 0) rfl rfl rfl hl.1 rfl (Nat.le_of_ble_eq_true rfl) dX0_fix_73 ⟨Nat.zero_le _, Nat.zero_le _⟩ ?_
      refine va_put (D := (dC, dI)) (ci := 0) (v := .long (f_X0_withStuck (B.1, B.2.1, B.2.2.1, B.2.2.2.1, B.2.2.2.2.1 ||| (f_X5_dotIn x0 x1), B.2.2.2.2.2 ||| (f_X5_dotIn x0 x1)) B.2.2.2.1)) (ty := .long) (C := RX0) (T := TX0) (N := 6) hx hb hts hi0 tyX0 tyX0_ok nmX0 hown hK hP hD hS 0 rfl rfl 3 (by decide) (hts (.fieldLink RX0 22 RX0 "picture" "J") (by decide +kernel)) (fun _ h9 => h9) rfl (by decide +kernel) rfl rfl (Nat.le_of_ble_eq_true rfl) dX0_fix_76 (fun H locs hP hD hS => ?_)
      have hP : va_P (dC, dI) vwCl (wBd b0 b1 b2 cI (B.1, B.2.1, B.2.2.1, (f_X0_withStuck (B.1, B.2.1, B.2.2.1, B.2.2.2.1, B.2.2.2.2.1 ||| (f_X5_dotIn x0 x1), B.2.2.2.2.2 ||| (f_X5_dotIn x0 x1)) B.2.2.2.1), B.2.2.2.2.1 ||| (f_X5_dotIn x0 x1), B.2.2.2.2.2 ||| (f_X5_dotIn x0 x1))) H := hP
      have hD : va_D A (wBd b0 b1 b2 cI (B.1, B.2.1, B.2.2.1, (f_X0_withStuck (B.1, B.2.1, B.2.2.1, B.2.2.2.1, B.2.2.2.2.1 ||| (f_X5_dotIn x0 x1), B.2.2.2.2.2 ||| (f_X5_dotIn x0 x1)) B.2.2.2.1), B.2.2.2.2.1 ||| (f_X5_dotIn x0 x1), B.2.2.2.2.2 ||| (f_X5_dotIn x0 x1))) := hD
      subst hf
      exact W.vret hx hb hr (fun t ht hW => ⟨⟨(), rfl, trivial, ⟨by rw [ht]; exact hP, va_K.moved hW.alike hK, hD⟩⟩, hS.F ht⟩) hS.2.2 dX0_fix_79
  · replace hf := (if_pos c_1).symm.trans hf
    refine lv_aload_n hx hb dX0_fix_13 rfl (lv_at hl 1 rfl) ?_
    refine va_get (D := (dC, dI)) (ci := 0) (v := .long B.2.2.2.2.1) (C := RX0) (T := TX0) (N := 6) hx hb hts hi0 hown hK hP 0 rfl rfl 4 (by decide) (hts (.fieldLink RX0 26 RX0 "stuck" "J") (by decide +kernel)) (fun _ h9 => h9) rfl dX0_fix_14 ?_
    refine lv_lload hx hb dX0_fix_17 (lv_at hl 0 rfl) ?_
    refine lv_ldc2 hx hb hown (hts (.constantLong RX0 36 (-1)) (by decide +kernel)) dX0_fix_19 ?_
    refine lv_lxor hx hb dX0_fix_22 ?_
    refine lv_land hx hb dX0_fix_23 ?_
    refine lv_goto (tgt := 34) hx hb dX0_fix_24 (by decide) ?_
    refine va_put (D := (dC, dI)) (ci := 0) (v := .long (B.2.2.2.2.1 &&& ((f_X5_dotIn x0 x1) ^^^ (-1)))) (ty := .long) (C := RX0) (T := TX0) (N := 6) hx hb hts hi0 tyX0 tyX0_ok nmX0 hown hK hP hD hS 0 rfl rfl 4 (by decide) (hts (.fieldLink RX0 26 RX0 "stuck" "J") (by decide +kernel)) (fun _ h9 => h9) rfl (by decide +kernel) rfl rfl (Nat.le_of_ble_eq_true rfl) dX0_fix_34 (fun H locs hP hD hS => ?_)
    have hP : va_P (dC, dI) vwCl (wBd b0 b1 b2 cI (B.1, B.2.1, B.2.2.1, B.2.2.2.1, B.2.2.2.2.1 &&& ((f_X5_dotIn x0 x1) ^^^ (-1)), B.2.2.2.2.2)) H := hP
    have hD : va_D A (wBd b0 b1 b2 cI (B.1, B.2.1, B.2.2.1, B.2.2.2.1, B.2.2.2.2.1 &&& ((f_X5_dotIn x0 x1) ^^^ (-1)), B.2.2.2.2.2)) := hD
    refine lv_aload_n hx hb dX0_fix_37 rfl (lv_at hl 1 rfl) ?_
    refine lv_iload_n hx hb dX0_fix_38 rfl (lv_at hl 4 rfl) ?_
    refine lv_iconst (v := 1) hx hb dX0_fix_39 (by decide) ?_
    refine lv_icmp_ne (tgt := 53) hx hb dX0_fix_40 (by decide) (fun c_3 => ?_) (fun c_3 => ?_)
    · replace hf := (if_neg c_3).symm.trans hf
      refine lv_aload_n hx hb dX0_fix_53 rfl (lv_at hl 1 rfl) ?_
      refine va_get (D := (dC, dI)) (ci := 0) (v := .long B.2.2.2.2.2) (C := RX0) (T := TX0) (N := 6) hx hb hts hi0 hown hK hP 0 rfl rfl 5 (by decide) (hts (.fieldLink RX0 29 RX0 "stuckBright" "J") (by decide +kernel)) (fun _ h9 => h9) rfl dX0_fix_54 ?_
      refine lv_lload hx hb dX0_fix_57 (lv_at hl 0 rfl) ?_
      refine lv_ldc2 hx hb hown (hts (.constantLong RX0 36 (-1)) (by decide +kernel)) dX0_fix_59 ?_
      refine lv_lxor hx hb dX0_fix_62 ?_
      refine lv_land hx hb dX0_fix_63 ?_
      refine va_put (D := (dC, dI)) (ci := 0) (v := .long (B.2.2.2.2.2 &&& ((f_X5_dotIn x0 x1) ^^^ (-1)))) (ty := .long) (C := RX0) (T := TX0) (N := 6) hx hb hts hi0 tyX0 tyX0_ok nmX0 hown hK hP hD hS 0 rfl rfl 5 (by decide) (hts (.fieldLink RX0 29 RX0 "stuckBright" "J") (by decide +kernel)) (fun _ h9 => h9) rfl (by decide +kernel) rfl rfl (Nat.le_of_ble_eq_true rfl) dX0_fix_64 (fun H locs hP hD hS => ?_)
      have hP : va_P (dC, dI) vwCl (wBd b0 b1 b2 cI (B.1, B.2.1, B.2.2.1, B.2.2.2.1, B.2.2.2.2.1 &&& ((f_X5_dotIn x0 x1) ^^^ (-1)), B.2.2.2.2.2 &&& ((f_X5_dotIn x0 x1) ^^^ (-1)))) H := hP
      have hD : va_D A (wBd b0 b1 b2 cI (B.1, B.2.1, B.2.2.1, B.2.2.2.1, B.2.2.2.2.1 &&& ((f_X5_dotIn x0 x1) ^^^ (-1)), B.2.2.2.2.2 &&& ((f_X5_dotIn x0 x1) ^^^ (-1)))) := hD
      refine lv_aload_n hx hb dX0_fix_67 rfl (lv_at hl 1 rfl) ?_
      refine lv_aload_n hx hb dX0_fix_68 rfl (lv_at hl 1 rfl) ?_
      refine lv_aload_n hx hb dX0_fix_69 rfl (lv_at hl 1 rfl) ?_
      refine va_get (D := (dC, dI)) (ci := 0) (v := .long B.2.2.2.1) (C := RX0) (T := TX0) (N := 6) hx hb hts hi0 hown hK hP 0 rfl rfl 3 (by decide) (hts (.fieldLink RX0 22 RX0 "picture" "J") (by decide +kernel)) (fun _ h9 => h9) rfl dX0_fix_70 ?_
      refine q_rV (As := [.long B.2.2.2.1]) (rest := [.ref b0]) ⟨hx, hb, hml, hown, hts⟩ (c_X0_withStuck l dC dI cI cJ b0 b1 b2 (B.1, B.2.1, B.2.2.1, B.2.2.2.1, B.2.2.2.2.1 &&& ((f_X5_dotIn x0 x1) ^^^ (-1)), B.2.2.2.2.2 &&& ((f_X5_dotIn x0 x1) ^^^ (-1))) B.2.2.2.1) (cwV 1 hts gX0_fix_X0_withStuck rfl rfl rfl (by decide +kernel) ⟨Nat.le_of_ble_eq_true rfl, Nat.le_of_ble_eq_true rfl⟩) hK hn hP (ci := 0) rfl rfl rfl hl.1 rfl (Nat.le_of_ble_eq_true rfl) dX0_fix_73 ⟨Nat.zero_le _, Nat.zero_le _⟩ ?_
      refine va_put (D := (dC, dI)) (ci := 0) (v := .long (f_X0_withStuck (B.1, B.2.1, B.2.2.1, B.2.2.2.1, B.2.2.2.2.1 &&& ((f_X5_dotIn x0 x1) ^^^ (-1)), B.2.2.2.2.2 &&& ((f_X5_dotIn x0 x1) ^^^ (-1))) B.2.2.2.1)) (ty := .long) (C := RX0) (T := TX0) (N := 6) hx hb hts hi0 tyX0 tyX0_ok nmX0 hown hK hP hD hS 0 rfl rfl 3 (by decide) (hts (.fieldLink RX0 22 RX0 "picture" "J") (by decide +kernel)) (fun _ h9 => h9) rfl (by decide +kernel) rfl rfl (Nat.le_of_ble_eq_true rfl) dX0_fix_76 (fun H locs hP hD hS => ?_)
      have hP : va_P (dC, dI) vwCl (wBd b0 b1 b2 cI (B.1, B.2.1, B.2.2.1, (f_X0_withStuck (B.1, B.2.1, B.2.2.1, B.2.2.2.1, B.2.2.2.2.1 &&& ((f_X5_dotIn x0 x1) ^^^ (-1)), B.2.2.2.2.2 &&& ((f_X5_dotIn x0 x1) ^^^ (-1))) B.2.2.2.1), B.2.2.2.2.1 &&& ((f_X5_dotIn x0 x1) ^^^ (-1)), B.2.2.2.2.2 &&& ((f_X5_dotIn x0 x1) ^^^ (-1)))) H := hP
      have hD : va_D A (wBd b0 b1 b2 cI (B.1, B.2.1, B.2.2.1, (f_X0_withStuck (B.1, B.2.1, B.2.2.1, B.2.2.2.1, B.2.2.2.2.1 &&& ((f_X5_dotIn x0 x1) ^^^ (-1)), B.2.2.2.2.2 &&& ((f_X5_dotIn x0 x1) ^^^ (-1))) B.2.2.2.1), B.2.2.2.2.1 &&& ((f_X5_dotIn x0 x1) ^^^ (-1)), B.2.2.2.2.2 &&& ((f_X5_dotIn x0 x1) ^^^ (-1)))) := hD
      subst hf
      exact W.vret hx hb hr (fun t ht hW => ⟨⟨(), rfl, trivial, ⟨by rw [ht]; exact hP, va_K.moved hW.alike hK, hD⟩⟩, hS.F ht⟩) hS.2.2 dX0_fix_79
    · replace hf := (if_pos c_3).symm.trans hf
      refine lv_aload_n hx hb dX0_fix_43 rfl (lv_at hl 1 rfl) ?_
      refine va_get (D := (dC, dI)) (ci := 0) (v := .long B.2.2.2.2.2) (C := RX0) (T := TX0) (N := 6) hx hb hts hi0 hown hK hP 0 rfl rfl 5 (by decide) (hts (.fieldLink RX0 29 RX0 "stuckBright" "J") (by decide +kernel)) (fun _ h9 => h9) rfl dX0_fix_44 ?_
      refine lv_lload hx hb dX0_fix_47 (lv_at hl 0 rfl) ?_
      refine lv_lor hx hb dX0_fix_49 ?_
      refine lv_goto (tgt := 64) hx hb dX0_fix_50 (by decide) ?_
      refine va_put (D := (dC, dI)) (ci := 0) (v := .long (B.2.2.2.2.2 ||| (f_X5_dotIn x0 x1))) (ty := .long) (C := RX0) (T := TX0) (N := 6) hx hb hts hi0 tyX0 tyX0_ok nmX0 hown hK hP hD hS 0 rfl rfl 5 (by decide) (hts (.fieldLink RX0 29 RX0 "stuckBright" "J") (by decide +kernel)) (fun _ h9 => h9) rfl (by decide +kernel) rfl rfl (Nat.le_of_ble_eq_true rfl) dX0_fix_64 (fun H locs hP hD hS => ?_)
      have hP : va_P (dC, dI) vwCl (wBd b0 b1 b2 cI (B.1, B.2.1, B.2.2.1, B.2.2.2.1, B.2.2.2.2.1 &&& ((f_X5_dotIn x0 x1) ^^^ (-1)), B.2.2.2.2.2 ||| (f_X5_dotIn x0 x1))) H := hP
      have hD : va_D A (wBd b0 b1 b2 cI (B.1, B.2.1, B.2.2.1, B.2.2.2.1, B.2.2.2.2.1 &&& ((f_X5_dotIn x0 x1) ^^^ (-1)), B.2.2.2.2.2 ||| (f_X5_dotIn x0 x1))) := hD
      refine lv_aload_n hx hb dX0_fix_67 rfl (lv_at hl 1 rfl) ?_
      refine lv_aload_n hx hb dX0_fix_68 rfl (lv_at hl 1 rfl) ?_
      refine lv_aload_n hx hb dX0_fix_69 rfl (lv_at hl 1 rfl) ?_
      refine va_get (D := (dC, dI)) (ci := 0) (v := .long B.2.2.2.1) (C := RX0) (T := TX0) (N := 6) hx hb hts hi0 hown hK hP 0 rfl rfl 3 (by decide) (hts (.fieldLink RX0 22 RX0 "picture" "J") (by decide +kernel)) (fun _ h9 => h9) rfl dX0_fix_70 ?_
      refine q_rV (As := [.long B.2.2.2.1]) (rest := [.ref b0]) ⟨hx, hb, hml, hown, hts⟩ (c_X0_withStuck l dC dI cI cJ b0 b1 b2 (B.1, B.2.1, B.2.2.1, B.2.2.2.1, B.2.2.2.2.1 &&& ((f_X5_dotIn x0 x1) ^^^ (-1)), B.2.2.2.2.2 ||| (f_X5_dotIn x0 x1)) B.2.2.2.1) (cwV 1 hts gX0_fix_X0_withStuck rfl rfl rfl (by decide +kernel) ⟨Nat.le_of_ble_eq_true rfl, Nat.le_of_ble_eq_true rfl⟩) hK hn hP (ci := 0) rfl rfl rfl hl.1 rfl (Nat.le_of_ble_eq_true rfl) dX0_fix_73 ⟨Nat.zero_le _, Nat.zero_le _⟩ ?_
      refine va_put (D := (dC, dI)) (ci := 0) (v := .long (f_X0_withStuck (B.1, B.2.1, B.2.2.1, B.2.2.2.1, B.2.2.2.2.1 &&& ((f_X5_dotIn x0 x1) ^^^ (-1)), B.2.2.2.2.2 ||| (f_X5_dotIn x0 x1)) B.2.2.2.1)) (ty := .long) (C := RX0) (T := TX0) (N := 6) hx hb hts hi0 tyX0 tyX0_ok nmX0 hown hK hP hD hS 0 rfl rfl 3 (by decide) (hts (.fieldLink RX0 22 RX0 "picture" "J") (by decide +kernel)) (fun _ h9 => h9) rfl (by decide +kernel) rfl rfl (Nat.le_of_ble_eq_true rfl) dX0_fix_76 (fun H locs hP hD hS => ?_)
      have hP : va_P (dC, dI) vwCl (wBd b0 b1 b2 cI (B.1, B.2.1, B.2.2.1, (f_X0_withStuck (B.1, B.2.1, B.2.2.1, B.2.2.2.1, B.2.2.2.2.1 &&& ((f_X5_dotIn x0 x1) ^^^ (-1)), B.2.2.2.2.2 ||| (f_X5_dotIn x0 x1)) B.2.2.2.1), B.2.2.2.2.1 &&& ((f_X5_dotIn x0 x1) ^^^ (-1)), B.2.2.2.2.2 ||| (f_X5_dotIn x0 x1))) H := hP
      have hD : va_D A (wBd b0 b1 b2 cI (B.1, B.2.1, B.2.2.1, (f_X0_withStuck (B.1, B.2.1, B.2.2.1, B.2.2.2.1, B.2.2.2.2.1 &&& ((f_X5_dotIn x0 x1) ^^^ (-1)), B.2.2.2.2.2 ||| (f_X5_dotIn x0 x1)) B.2.2.2.1), B.2.2.2.2.1 &&& ((f_X5_dotIn x0 x1) ^^^ (-1)), B.2.2.2.2.2 ||| (f_X5_dotIn x0 x1))) := hD
      subst hf
      exact W.vret hx hb hr (fun t ht hW => ⟨⟨(), rfl, trivial, ⟨by rw [ht]; exact hP, va_K.moved hW.alike hK, hD⟩⟩, hS.F ht⟩) hS.2.2 dX0_fix_79
def f_X0_renewColumn (B : q_Bd) (x0 : Int32) : q_Bd := (B.1, (f_X5_put 8 B.2.1 x0 0), B.2.2.1, B.2.2.2.1 &&& (((31 : Int64) <<< ((f_X5_bitOf x0 0).toInt64 &&& 63)) ^^^ (-1)), B.2.2.2.2.1 &&& (((31 : Int64) <<< ((f_X5_bitOf x0 0).toInt64 &&& 63)) ^^^ (-1)), B.2.2.2.2.2 &&& (((31 : Int64) <<< ((f_X5_bitOf x0 0).toInt64 &&& 63)) ^^^ (-1)))
set_option maxHeartbeats 4000000 in
set_option maxRecDepth 100000 in
theorem c_X0_renewColumn (l : Launch) (dC : Nat → ClassId) (dI : Nat → Nat → Nat) (cI cJ : ClassId) (b0 : Nat) (b1 : Nat) (b2 : Nat) (sz : Nat) (B : q_Bd) (x0 : Int32) : Met l yX0_renewColumn wsX0_renewColumn ({ frames := 1, cells := 0, slots := 0, locals := 22 } : Room) (va_Pc [.ref b0, .int x0] (q_W (dC, dI) vwCl (wBd b0 b1 b2 cI B) (q_ty cI cJ) sz)) (va_Qv (S := Unit) (fun _ => True) (fun _ => q_E (dC, dI) vwCl (wBd b0 b1 b2 cI (f_X0_renewColumn B x0)) (q_ty cI cJ) (va_A (wBd b0 b1 b2 cI B) sz)) (va_A (wBd b0 b1 b2 cI B) sz)) 0 0 (va_A (wBd b0 b1 b2 cI B) sz) := by
  refine Met.ofW (cc := cX0_renewColumn) (maxL := 4) (ret := none) (by decide) rfl ?_
  intro p e s m args below meth c s₁ BB hml hv
  obtain ⟨rfl, hsz, hP, hK, hn, hD0⟩ := hv
  have hx := BB.exec
  have hb := BB.bytes
  have hr := BB.returns
  have hts := atoms_spec (ws := wsX0_renewColumn) BB.pre
  have hown : s.vm.findClass RX0 = some m.cls := findClass_of_methodNamed BB.named
  have hlocks := BB.notSynchronized
  subst hsz
  have hD := hD0.self (sz := s.heap.size)
  generalize hAe : va_A (wBd b0 b1 b2 cI B) s.heap.size = A at hD ⊢
  have hA : ∀ q : Nat, s.heap.size ≤ q → A q := fun q h => by rw [← hAe]; exact Or.inr h
  have hS : va_S A s.heap s.heap [] := va_S.rf
  have hi0 : ∀ w ∈ u_ws RX0 TX0 6, w ∈ wsX0_renewColumn := by decide +kernel
  have hl := lv_entry [.ref b0, .int x0] (n := 4) (Nat.le_of_ble_eq_true rfl)
  rw [lg_entry_eq]
  generalize (lg_sl [.ref b0, .int x0] ++ List.replicate (4 - (lg_sl [.ref b0, .int x0]).length) Slot.unset).toArray = ls at hl ⊢
  have hl : lv_has ls 4 [(0, .ref b0), (1, .int x0)] := hl
  generalize hf : f_X0_renewColumn B x0 = r0
  obtain ⟨H, hH⟩ : ∃ H, H = s.heap := ⟨_, rfl⟩
  obtain ⟨locs, hlocs⟩ : ∃ x : List Loc, x = [] := ⟨_, rfl⟩
  rw [← hH] at hP
  have hS : va_S A s.heap H locs := by rw [hH, hlocs]; exact hS
  suffices hgoal : ∀ (H : Heap) (locs : List Loc), va_P (dC, dI) vwCl (wBd b0 b1 b2 cI B) H → va_S A s.heap H locs → W p l e (headSpec wsX0_renewColumn ({ frames := 1, cells := 0, slots := 0, locals := 22 } : Room)).room s m [.ref b0, .int x0].toArray below meth c H locs 0 0 (MQ below (va_Qv (S := Unit) (fun _ => True) (fun _ => q_E (dC, dI) vwCl (wBd b0 b1 b2 cI r0) (q_ty cI cJ) A) A) [.ref b0, .int x0].toArray s 0 0 A) (F0 m 0 ls []) by
    have h9 := hgoal H locs hP hS
    rw [hH, hlocs] at h9
    exact h9
  clear hP hS hH H hlocs locs
  intro H locs hP hS
  unfold f_X0_renewColumn at hf
  refine lv_ldc2 hx hb hown (hts (.constantLong RX0 42 31) (by decide +kernel)) dX0_renewColumn_0 ?_
  refine lv_iload_n hx hb dX0_renewColumn_3 rfl (lv_at hl 1 rfl) ?_
  refine lv_iconst (v := 0) hx hb dX0_renewColumn_4 (by decide) ?_
  refine q_rSN (As := [.int x0, .int 0]) (rest := [.long 31]) ⟨hx, hb, hml, hown, hts⟩ (c_X5_bitOf l dC dI cI cJ x0 0) ⟨va_cnB 2 hts gX0_renewColumn_X5_bitOf_n44 rfl rfl rfl (nm_RX0_44 hn) (hts (.initialized RX5) (by decide +kernel)) (by decide +kernel) ⟨Nat.le_of_ble_eq_true rfl, Nat.le_of_ble_eq_true rfl⟩, hts (.static yX5_bitOf) (by decide +kernel), trivial⟩ hK hn (hP.sub (ws' := []) [] rfl) rfl hl.1 rfl (Nat.le_of_ble_eq_true rfl) dX0_renewColumn_5 ⟨Nat.zero_le _, Nat.zero_le _⟩ ?_
  refine lv_lshl (v := (31 : Int64) <<< ((f_X5_bitOf x0 0).toInt64 &&& 63)) hx hb dX0_renewColumn_8 rfl ?_
  refine lv_ldc2 hx hb hown (hts (.constantLong RX0 36 (-1)) (by decide +kernel)) dX0_renewColumn_9 ?_
  refine lv_lxor hx hb dX0_renewColumn_12 ?_
  refine lv_lstore_n (lv' := [(2, .long (((31 : Int64) <<< ((f_X5_bitOf x0 0).toInt64 &&& 63)) ^^^ (-1))), (0, .ref b0), (1, .int x0)]) hx hb dX0_renewColumn_13 rfl hl (by decide) rfl (fun ls hl => ?_)
  refine lv_aload_n hx hb dX0_renewColumn_14 rfl (lv_at hl 1 rfl) ?_
  refine lv_dup hx hb dX0_renewColumn_15 rfl ?_
  refine va_get (D := (dC, dI)) (ci := 0) (v := .long B.2.2.2.1) (C := RX0) (T := TX0) (N := 6) hx hb hts hi0 hown hK hP 0 rfl rfl 3 (by decide) (hts (.fieldLink RX0 22 RX0 "picture" "J") (by decide +kernel)) (fun _ h9 => h9) rfl dX0_renewColumn_16 ?_
  refine lv_lload_n hx hb dX0_renewColumn_19 rfl (lv_at hl 0 rfl) ?_
  refine lv_land hx hb dX0_renewColumn_20 ?_
  refine va_put (D := (dC, dI)) (ci := 0) (v := .long (B.2.2.2.1 &&& (((31 : Int64) <<< ((f_X5_bitOf x0 0).toInt64 &&& 63)) ^^^ (-1)))) (ty := .long) (C := RX0) (T := TX0) (N := 6) hx hb hts hi0 tyX0 tyX0_ok nmX0 hown hK hP hD hS 0 rfl rfl 3 (by decide) (hts (.fieldLink RX0 22 RX0 "picture" "J") (by decide +kernel)) (fun _ h9 => h9) rfl (by decide +kernel) rfl rfl (Nat.le_of_ble_eq_true rfl) dX0_renewColumn_21 (fun H locs hP hD hS => ?_)
  have hP : va_P (dC, dI) vwCl (wBd b0 b1 b2 cI (B.1, B.2.1, B.2.2.1, B.2.2.2.1 &&& (((31 : Int64) <<< ((f_X5_bitOf x0 0).toInt64 &&& 63)) ^^^ (-1)), B.2.2.2.2.1, B.2.2.2.2.2)) H := hP
  have hD : va_D A (wBd b0 b1 b2 cI (B.1, B.2.1, B.2.2.1, B.2.2.2.1 &&& (((31 : Int64) <<< ((f_X5_bitOf x0 0).toInt64 &&& 63)) ^^^ (-1)), B.2.2.2.2.1, B.2.2.2.2.2)) := hD
  refine lv_aload_n hx hb dX0_renewColumn_24 rfl (lv_at hl 1 rfl) ?_
  refine lv_dup hx hb dX0_renewColumn_25 rfl ?_
  refine va_get (D := (dC, dI)) (ci := 0) (v := .long B.2.2.2.2.1) (C := RX0) (T := TX0) (N := 6) hx hb hts hi0 hown hK hP 0 rfl rfl 4 (by decide) (hts (.fieldLink RX0 26 RX0 "stuck" "J") (by decide +kernel)) (fun _ h9 => h9) rfl dX0_renewColumn_26 ?_
  refine lv_lload_n hx hb dX0_renewColumn_29 rfl (lv_at hl 0 rfl) ?_
  refine lv_land hx hb dX0_renewColumn_30 ?_
  refine va_put (D := (dC, dI)) (ci := 0) (v := .long (B.2.2.2.2.1 &&& (((31 : Int64) <<< ((f_X5_bitOf x0 0).toInt64 &&& 63)) ^^^ (-1)))) (ty := .long) (C := RX0) (T := TX0) (N := 6) hx hb hts hi0 tyX0 tyX0_ok nmX0 hown hK hP hD hS 0 rfl rfl 4 (by decide) (hts (.fieldLink RX0 26 RX0 "stuck" "J") (by decide +kernel)) (fun _ h9 => h9) rfl (by decide +kernel) rfl rfl (Nat.le_of_ble_eq_true rfl) dX0_renewColumn_31 (fun H locs hP hD hS => ?_)
  have hP : va_P (dC, dI) vwCl (wBd b0 b1 b2 cI (B.1, B.2.1, B.2.2.1, B.2.2.2.1 &&& (((31 : Int64) <<< ((f_X5_bitOf x0 0).toInt64 &&& 63)) ^^^ (-1)), B.2.2.2.2.1 &&& (((31 : Int64) <<< ((f_X5_bitOf x0 0).toInt64 &&& 63)) ^^^ (-1)), B.2.2.2.2.2)) H := hP
  have hD : va_D A (wBd b0 b1 b2 cI (B.1, B.2.1, B.2.2.1, B.2.2.2.1 &&& (((31 : Int64) <<< ((f_X5_bitOf x0 0).toInt64 &&& 63)) ^^^ (-1)), B.2.2.2.2.1 &&& (((31 : Int64) <<< ((f_X5_bitOf x0 0).toInt64 &&& 63)) ^^^ (-1)), B.2.2.2.2.2)) := hD
  refine lv_aload_n hx hb dX0_renewColumn_34 rfl (lv_at hl 1 rfl) ?_
  refine lv_dup hx hb dX0_renewColumn_35 rfl ?_
  refine va_get (D := (dC, dI)) (ci := 0) (v := .long B.2.2.2.2.2) (C := RX0) (T := TX0) (N := 6) hx hb hts hi0 hown hK hP 0 rfl rfl 5 (by decide) (hts (.fieldLink RX0 29 RX0 "stuckBright" "J") (by decide +kernel)) (fun _ h9 => h9) rfl dX0_renewColumn_36 ?_
  refine lv_lload_n hx hb dX0_renewColumn_39 rfl (lv_at hl 0 rfl) ?_
  refine lv_land hx hb dX0_renewColumn_40 ?_
  refine va_put (D := (dC, dI)) (ci := 0) (v := .long (B.2.2.2.2.2 &&& (((31 : Int64) <<< ((f_X5_bitOf x0 0).toInt64 &&& 63)) ^^^ (-1)))) (ty := .long) (C := RX0) (T := TX0) (N := 6) hx hb hts hi0 tyX0 tyX0_ok nmX0 hown hK hP hD hS 0 rfl rfl 5 (by decide) (hts (.fieldLink RX0 29 RX0 "stuckBright" "J") (by decide +kernel)) (fun _ h9 => h9) rfl (by decide +kernel) rfl rfl (Nat.le_of_ble_eq_true rfl) dX0_renewColumn_41 (fun H locs hP hD hS => ?_)
  have hP : va_P (dC, dI) vwCl (wBd b0 b1 b2 cI (B.1, B.2.1, B.2.2.1, B.2.2.2.1 &&& (((31 : Int64) <<< ((f_X5_bitOf x0 0).toInt64 &&& 63)) ^^^ (-1)), B.2.2.2.2.1 &&& (((31 : Int64) <<< ((f_X5_bitOf x0 0).toInt64 &&& 63)) ^^^ (-1)), B.2.2.2.2.2 &&& (((31 : Int64) <<< ((f_X5_bitOf x0 0).toInt64 &&& 63)) ^^^ (-1)))) H := hP
  have hD : va_D A (wBd b0 b1 b2 cI (B.1, B.2.1, B.2.2.1, B.2.2.2.1 &&& (((31 : Int64) <<< ((f_X5_bitOf x0 0).toInt64 &&& 63)) ^^^ (-1)), B.2.2.2.2.1 &&& (((31 : Int64) <<< ((f_X5_bitOf x0 0).toInt64 &&& 63)) ^^^ (-1)), B.2.2.2.2.2 &&& (((31 : Int64) <<< ((f_X5_bitOf x0 0).toInt64 &&& 63)) ^^^ (-1)))) := hD
  refine lv_aload_n hx hb dX0_renewColumn_44 rfl (lv_at hl 1 rfl) ?_
  refine va_get (D := (dC, dI)) (ci := 0) (v := .ref b2) (C := RX0) (T := TX0) (N := 6) hx hb hts hi0 hown hK hP 0 rfl rfl 1 (by decide) (hts (.fieldLink RX0 15 RX0 "wear" "[I") (by decide +kernel)) (fun _ h9 => h9) rfl dX0_renewColumn_45 ?_
  refine lv_iload_n hx hb dX0_renewColumn_48 rfl (lv_at hl 2 rfl) ?_
  refine lv_iconst (v := 0) hx hb dX0_renewColumn_49 (by decide) ?_
  have hPc := hP.sub (ws' := [(b2, .inl (cI, 8, .inl B.2.1))]) [2] rfl
  have hDc := hD.sub (ws' := [(b2, .inl (cI, 8, .inl B.2.1))]) [2] (by decide) rfl
  have hFc := va_free (wc := [(b2, .inl (cI, 8, .inl B.2.1))]) hD hS hA [2] rfl
  refine va_callv (va_runSN (As := [.ref b2, .int x0, .int 0]) (rest := []) ⟨hx, hb, hml, hown, hts⟩ (c_X5_put l dC dI cI cJ b2 H.size 8 B.2.1 (by decide) x0 0) ⟨va_cnB 3 hts gX0_renewColumn_X5_put_n48 rfl rfl rfl (nm_RX0_48 hn) (hts (.initialized RX5) (by decide +kernel)) (by decide +kernel) ⟨Nat.le_of_ble_eq_true rfl, Nat.le_of_ble_eq_true rfl⟩, hts (.static yX5_put) (by decide +kernel), trivial⟩ ⟨q_Wblind, q_Wpre hPc hK hn hDc⟩ rfl rfl hl.1 rfl (lv_room (Nat.le_of_ble_eq_true rfl)) dX0_renewColumn_50 ⟨Nat.zero_le _, Nat.zero_le _⟩) hS (fun q _ h => hFc q h) hFc (fun u t H1 locs ht hvm hw hB hz1 hk1 hS => ?_)
  obtain ⟨hP1, hK1, hD1⟩ := hB
  rw [ht] at hP1
  obtain ⟨hP, hD⟩ := va_join (wr := [(b0, .inr (0, [.ref b1, .ref b2, .int ((B.1, B.2.1, B.2.2.1, B.2.2.2.1 &&& (((31 : Int64) <<< ((f_X5_bitOf x0 0).toInt64 &&& 63)) ^^^ (-1)), B.2.2.2.2.1 &&& (((31 : Int64) <<< ((f_X5_bitOf x0 0).toInt64 &&& 63)) ^^^ (-1)), B.2.2.2.2.2 &&& (((31 : Int64) <<< ((f_X5_bitOf x0 0).toInt64 &&& 63)) ^^^ (-1))).2.2.1), .long ((B.1, B.2.1, B.2.2.1, B.2.2.2.1 &&& (((31 : Int64) <<< ((f_X5_bitOf x0 0).toInt64 &&& 63)) ^^^ (-1)), B.2.2.2.2.1 &&& (((31 : Int64) <<< ((f_X5_bitOf x0 0).toInt64 &&& 63)) ^^^ (-1)), B.2.2.2.2.2 &&& (((31 : Int64) <<< ((f_X5_bitOf x0 0).toInt64 &&& 63)) ^^^ (-1))).2.2.2.1), .long ((B.1, B.2.1, B.2.2.1, B.2.2.2.1 &&& (((31 : Int64) <<< ((f_X5_bitOf x0 0).toInt64 &&& 63)) ^^^ (-1)), B.2.2.2.2.1 &&& (((31 : Int64) <<< ((f_X5_bitOf x0 0).toInt64 &&& 63)) ^^^ (-1)), B.2.2.2.2.2 &&& (((31 : Int64) <<< ((f_X5_bitOf x0 0).toInt64 &&& 63)) ^^^ (-1))).2.2.2.2.1), .long ((B.1, B.2.1, B.2.2.1, B.2.2.2.1 &&& (((31 : Int64) <<< ((f_X5_bitOf x0 0).toInt64 &&& 63)) ^^^ (-1)), B.2.2.2.2.1 &&& (((31 : Int64) <<< ((f_X5_bitOf x0 0).toInt64 &&& 63)) ^^^ (-1)), B.2.2.2.2.2 &&& (((31 : Int64) <<< ((f_X5_bitOf x0 0).toInt64 &&& 63)) ^^^ (-1))).2.2.2.2.2)])), (b1, .inl (cI, 40, .inl ((B.1, B.2.1, B.2.2.1, B.2.2.2.1 &&& (((31 : Int64) <<< ((f_X5_bitOf x0 0).toInt64 &&& 63)) ^^^ (-1)), B.2.2.2.2.1 &&& (((31 : Int64) <<< ((f_X5_bitOf x0 0).toInt64 &&& 63)) ^^^ (-1)), B.2.2.2.2.2 &&& (((31 : Int64) <<< ((f_X5_bitOf x0 0).toInt64 &&& 63)) ^^^ (-1))).1)))]) (w1 := [(b2, .inl (cI, 8, .inl (f_X5_put 8 B.2.1 x0 0)))]) hP hD [2] [0, 1] rfl rfl (by decide) (by decide) hk1 hFc hP1 hD1
  generalize H1 = H at hP hS ⊢
  have hP : va_P (dC, dI) vwCl (wBd b0 b1 b2 cI (B.1, (f_X5_put 8 B.2.1 x0 0), B.2.2.1, B.2.2.2.1 &&& (((31 : Int64) <<< ((f_X5_bitOf x0 0).toInt64 &&& 63)) ^^^ (-1)), B.2.2.2.2.1 &&& (((31 : Int64) <<< ((f_X5_bitOf x0 0).toInt64 &&& 63)) ^^^ (-1)), B.2.2.2.2.2 &&& (((31 : Int64) <<< ((f_X5_bitOf x0 0).toInt64 &&& 63)) ^^^ (-1)))) H := hP
  have hD : va_D A (wBd b0 b1 b2 cI (B.1, (f_X5_put 8 B.2.1 x0 0), B.2.2.1, B.2.2.2.1 &&& (((31 : Int64) <<< ((f_X5_bitOf x0 0).toInt64 &&& 63)) ^^^ (-1)), B.2.2.2.2.1 &&& (((31 : Int64) <<< ((f_X5_bitOf x0 0).toInt64 &&& 63)) ^^^ (-1)), B.2.2.2.2.2 &&& (((31 : Int64) <<< ((f_X5_bitOf x0 0).toInt64 &&& 63)) ^^^ (-1)))) := hD
  subst hf
  exact W.vret hx hb hr (fun t ht hW => ⟨⟨(), rfl, trivial, ⟨by rw [ht]; exact hP, va_K.moved hW.alike hK, hD⟩⟩, hS.F ht⟩) hS.2.2 dX0_renewColumn_53
def fl_X0_turnTo_10 (x0 : Int64) (B : q_Bd) : Nat → Int32 → q_Bd → Option (Int32 × q_Bd)
  | 0, _, _ => none
  | nn + 1, i5_10, B_10 => (if B_10.2.2.1 ≤ i5_10 then some (i5_10, B_10) else fl_X0_turnTo_10 x0 B nn (i5_10 + 1) (B_10.1, (f_X5_put 8 B_10.2.1 i5_10 ((f_X5_at 8 B_10.2.1 i5_10) + (f_J6_bitCount_0f7a4 (f_X5_setIn (B.2.2.2.1 ^^^ x0) i5_10)))), B_10.2.2.1, B_10.2.2.2.1, B_10.2.2.2.2.1, B_10.2.2.2.2.2))
def fl_X0_turnTo_56 (x0 : Int64) (B : q_Bd) : Nat → Int32 → q_Bd → Option (Int32 × q_Bd)
  | 0, _, _ => none
  | nn + 1, i5_56, B_56 => (if (nI 40) ≤ i5_56 then some (i5_56, B_56) else (if q_ix i5_56 40 = true then fl_X0_turnTo_56 x0 B nn (i5_56 + 1) ((upd B_56.1 i5_56.toNatClampNeg ((B_56.1 i5_56.toNatClampNeg) + (((((B.2.2.2.1 ^^^ x0).toUInt64 >>> (i5_56.toInt64.toUInt64 &&& Int64.toUInt64 63)).toInt64) &&& 1).toInt32))), B_56.2.1, B_56.2.2.1, B_56.2.2.2.1, B_56.2.2.2.2.1, B_56.2.2.2.2.2) else none))
def f_X0_turnTo (B : q_Bd) (x0 : Int64) : Option (q_Bd) := ((fl_X0_turnTo_10 x0 B 1000 0 B).bind fun z_2 => ((fl_X0_turnTo_56 x0 B 1000 0 z_2.2).bind fun z_5 => some (z_5.2.1, z_5.2.2.1, z_5.2.2.2.1, x0, z_5.2.2.2.2.2.1, z_5.2.2.2.2.2.2)))
set_option maxHeartbeats 4000000 in
set_option maxRecDepth 100000 in
theorem c_X0_turnTo (l : Launch) (dC : Nat → ClassId) (dI : Nat → Nat → Nat) (cI cJ : ClassId) (b0 : Nat) (b1 : Nat) (b2 : Nat) (sz : Nat) (B : q_Bd) (x0 : Int64) (r0 : q_Bd) (hf : f_X0_turnTo B x0 = some r0) : Met l yX0_turnTo wsX0_turnTo ({ frames := 1, cells := 0, slots := 0, locals := 22 } : Room) (va_Pc [.ref b0, .long x0] (q_W (dC, dI) vwCl (wBd b0 b1 b2 cI B) (q_ty cI cJ) sz)) (va_Qv (S := Unit) (fun _ => True) (fun _ => q_E (dC, dI) vwCl (wBd b0 b1 b2 cI r0) (q_ty cI cJ) (va_A (wBd b0 b1 b2 cI B) sz)) (va_A (wBd b0 b1 b2 cI B) sz)) 0 0 (va_A (wBd b0 b1 b2 cI B) sz) := by
  refine Met.ofW (cc := cX0_turnTo) (maxL := 6) (ret := none) (by decide) rfl ?_
  intro p e s m args below meth c s₁ BB hml hv
  obtain ⟨rfl, hsz, hP, hK, hn, hD0⟩ := hv
  have hx := BB.exec
  have hb := BB.bytes
  have hr := BB.returns
  have hts := atoms_spec (ws := wsX0_turnTo) BB.pre
  have hown : s.vm.findClass RX0 = some m.cls := findClass_of_methodNamed BB.named
  have hlocks := BB.notSynchronized
  subst hsz
  have hD := hD0.self (sz := s.heap.size)
  generalize hAe : va_A (wBd b0 b1 b2 cI B) s.heap.size = A at hD ⊢
  have hA : ∀ q : Nat, s.heap.size ≤ q → A q := fun q h => by rw [← hAe]; exact Or.inr h
  have hS : va_S A s.heap s.heap [] := va_S.rf
  have hi0 : ∀ w ∈ u_ws RX0 TX0 6, w ∈ wsX0_turnTo := by decide +kernel
  have hl := lv_entry [.ref b0, .long x0] (n := 6) (Nat.le_of_ble_eq_true rfl)
  rw [lg_entry_eq]
  generalize (lg_sl [.ref b0, .long x0] ++ List.replicate (6 - (lg_sl [.ref b0, .long x0]).length) Slot.unset).toArray = ls at hl ⊢
  have hl : lv_has ls 6 [(0, .ref b0), (1, .long x0)] := hl
  obtain ⟨H, hH⟩ : ∃ H, H = s.heap := ⟨_, rfl⟩
  obtain ⟨locs, hlocs⟩ : ∃ x : List Loc, x = [] := ⟨_, rfl⟩
  rw [← hH] at hP
  have hS : va_S A s.heap H locs := by rw [hH, hlocs]; exact hS
  suffices hgoal : ∀ (H : Heap) (locs : List Loc), va_P (dC, dI) vwCl (wBd b0 b1 b2 cI B) H → va_S A s.heap H locs → W p l e (headSpec wsX0_turnTo ({ frames := 1, cells := 0, slots := 0, locals := 22 } : Room)).room s m [.ref b0, .long x0].toArray below meth c H locs 0 0 (MQ below (va_Qv (S := Unit) (fun _ => True) (fun _ => q_E (dC, dI) vwCl (wBd b0 b1 b2 cI r0) (q_ty cI cJ) A) A) [.ref b0, .long x0].toArray s 0 0 A) (F0 m 0 ls []) by
    have h9 := hgoal H locs hP hS
    rw [hH, hlocs] at h9
    exact h9
  clear hP hS hH H hlocs locs
  intro H locs hP hS
  unfold f_X0_turnTo at hf
  refine lv_aload_n hx hb dX0_turnTo_0 rfl (lv_at hl 0 rfl) ?_
  refine va_get (D := (dC, dI)) (ci := 0) (v := .long B.2.2.2.1) (C := RX0) (T := TX0) (N := 6) hx hb hts hi0 hown hK hP 0 rfl rfl 3 (by decide) (hts (.fieldLink RX0 22 RX0 "picture" "J") (by decide +kernel)) (fun _ h9 => h9) rfl dX0_turnTo_1 ?_
  refine lv_lload_n hx hb dX0_turnTo_4 rfl (lv_at hl 1 rfl) ?_
  refine lv_lxor hx hb dX0_turnTo_5 ?_
  refine lv_lstore_n (lv' := [(3, .long (B.2.2.2.1 ^^^ x0)), (0, .ref b0), (1, .long x0)]) hx hb dX0_turnTo_6 rfl hl (by decide) rfl (fun ls hl => ?_)
  refine lv_iconst (v := 0) hx hb dX0_turnTo_7 (by decide) ?_
  refine lv_istore (lv' := [(5, .int 0), (3, .long (B.2.2.2.1 ^^^ x0)), (0, .ref b0), (1, .long x0)]) hx hb dX0_turnTo_8 hl (by decide) rfl (fun ls hl => ?_)
  have L_10 : ∀ (nn : Nat) (i5_10 : Int32) (B_10 : q_Bd) (H : Heap) (locs : List Loc) (ls : Array Slot) (z_10 : (Int32 × q_Bd)), lv_has ls 6 [(5, .int i5_10), (3, .long (B.2.2.2.1 ^^^ x0)), (0, .ref b0), (1, .long x0)] → va_P (dC, dI) vwCl (wBd b0 b1 b2 cI B_10) H → va_D A (wBd b0 b1 b2 cI B_10) → va_S A s.heap H locs → fl_X0_turnTo_10 x0 B nn i5_10 B_10 = some z_10 → (∀ (H : Heap) (locs : List Loc) (ls : Array Slot), lv_has ls 6 [(5, .int z_10.1), (3, .long (B.2.2.2.1 ^^^ x0)), (0, .ref b0), (1, .long x0)] → va_P (dC, dI) vwCl (wBd b0 b1 b2 cI z_10.2) H → va_D A (wBd b0 b1 b2 cI z_10.2) → va_S A s.heap H locs → W p l e (headSpec wsX0_turnTo ({ frames := 1, cells := 0, slots := 0, locals := 22 } : Room)).room s m [.ref b0, .long x0].toArray below meth c H locs 0 0 (MQ below (va_Qv (S := Unit) (fun _ => True) (fun _ => q_E (dC, dI) vwCl (wBd b0 b1 b2 cI r0) (q_ty cI cJ) A) A) [.ref b0, .long x0].toArray s 0 0 A) (F0 m 53 ls [])) → W p l e (headSpec wsX0_turnTo ({ frames := 1, cells := 0, slots := 0, locals := 22 } : Room)).room s m [.ref b0, .long x0].toArray below meth c H locs 0 0 (MQ below (va_Qv (S := Unit) (fun _ => True) (fun _ => q_E (dC, dI) vwCl (wBd b0 b1 b2 cI r0) (q_ty cI cJ) A) A) [.ref b0, .long x0].toArray s 0 0 A) (F0 m 10 ls []) := by
    intro nn
    induction nn with
    | zero =>
      intro i5_10 B_10 H locs ls z_10 hl hP hD hS hf hex_10
      rw [fl_X0_turnTo_10] at hf
      cases hf
    | succ nn ih =>
      intro i5_10 B_10 H locs ls z_10 hl hP hD hS hf hex_10
      rw [fl_X0_turnTo_10] at hf
      refine lv_iload hx hb dX0_turnTo_10 (lv_at hl 0 rfl) ?_
      refine lv_aload_n hx hb dX0_turnTo_12 rfl (lv_at hl 2 rfl) ?_
      refine va_get (D := (dC, dI)) (ci := 0) (v := .int B_10.2.2.1) (C := RX0) (T := TX0) (N := 6) hx hb hts hi0 hown hK hP 0 rfl rfl 2 (by decide) (hts (.fieldLink RX0 18 RX0 "columns" "I") (by decide +kernel)) (fun _ h9 => h9) rfl dX0_turnTo_13 ?_
      refine lv_icmp_ge (tgt := 53) hx hb dX0_turnTo_16 (by decide) (fun c_1 => ?_) (fun c_1 => ?_)
      · replace hf := (if_pos c_1).symm.trans hf
        replace hf := Option.some.inj hf
        subst hf
        exact hex_10 H locs ls (lv_sub hl [0, 1, 2, 3] rfl) hP hD hS
      · replace hf := (if_neg c_1).symm.trans hf
        refine lv_aload_n hx hb dX0_turnTo_19 rfl (lv_at hl 2 rfl) ?_
        refine va_get (D := (dC, dI)) (ci := 0) (v := .ref b2) (C := RX0) (T := TX0) (N := 6) hx hb hts hi0 hown hK hP 0 rfl rfl 1 (by decide) (hts (.fieldLink RX0 15 RX0 "wear" "[I") (by decide +kernel)) (fun _ h9 => h9) rfl dX0_turnTo_20 ?_
        refine lv_iload hx hb dX0_turnTo_23 (lv_at hl 0 rfl) ?_
        refine lv_aload_n hx hb dX0_turnTo_25 rfl (lv_at hl 2 rfl) ?_
        refine va_get (D := (dC, dI)) (ci := 0) (v := .ref b2) (C := RX0) (T := TX0) (N := 6) hx hb hts hi0 hown hK hP 0 rfl rfl 1 (by decide) (hts (.fieldLink RX0 15 RX0 "wear" "[I") (by decide +kernel)) (fun _ h9 => h9) rfl dX0_turnTo_26 ?_
        refine lv_iload hx hb dX0_turnTo_29 (lv_at hl 0 rfl) ?_
        refine q_rSN (As := [.ref b2, .int i5_10]) (rest := [.int i5_10, .ref b2]) ⟨hx, hb, hml, hown, hts⟩ (c_X5_at l dC dI cI cJ b2 8 B_10.2.1 (by decide) i5_10) ⟨va_cnB 2 hts gX0_turnTo_X5_at_n52 rfl rfl rfl (nm_RX0_52 hn) (hts (.initialized RX5) (by decide +kernel)) (by decide +kernel) ⟨Nat.le_of_ble_eq_true rfl, Nat.le_of_ble_eq_true rfl⟩, hts (.static yX5_at) (by decide +kernel), trivial⟩ hK hn (hP.sub (ws' := [(b2, .inl (cI, 8, .inl B_10.2.1))]) [2] rfl) rfl hl.1 rfl (Nat.le_of_ble_eq_true rfl) dX0_turnTo_31 ⟨Nat.zero_le _, Nat.zero_le _⟩ ?_
        refine lv_lload_n hx hb dX0_turnTo_34 rfl (lv_at hl 1 rfl) ?_
        refine lv_iload hx hb dX0_turnTo_35 (lv_at hl 0 rfl) ?_
        refine q_rSN (As := [.long (B.2.2.2.1 ^^^ x0), .int i5_10]) (rest := [.int (f_X5_at 8 B_10.2.1 i5_10), .int i5_10, .ref b2]) ⟨hx, hb, hml, hown, hts⟩ (c_X5_setIn l dC dI cI cJ (B.2.2.2.1 ^^^ x0) i5_10) ⟨va_cnB 2 hts gX0_turnTo_X5_setIn_n56 rfl rfl rfl (nm_RX0_56 hn) (hts (.initialized RX5) (by decide +kernel)) (by decide +kernel) ⟨Nat.le_of_ble_eq_true rfl, Nat.le_of_ble_eq_true rfl⟩, hts (.static yX5_setIn) (by decide +kernel), trivial⟩ hK hn (hP.sub (ws' := []) [] rfl) rfl hl.1 rfl (Nat.le_of_ble_eq_true rfl) dX0_turnTo_37 ⟨Nat.zero_le _, Nat.zero_le _⟩ ?_
        refine q_rS (As := [.int (f_X5_setIn (B.2.2.2.1 ^^^ x0) i5_10)]) (rest := [.int (f_X5_at 8 B_10.2.1 i5_10), .int i5_10, .ref b2]) ⟨hx, hb, hml, hown, hts⟩ (c_J6_bitCount_0f7a4 l dC dI cI cJ (f_X5_setIn (B.2.2.2.1 ^^^ x0) i5_10)) (va_cwS 1 hts gX0_turnTo_J6_bitCount_0f7a4 rfl rfl rfl (by decide +kernel) ⟨Nat.le_of_ble_eq_true rfl, Nat.le_of_ble_eq_true rfl⟩) hK hn (hP.sub (ws' := []) [] rfl) rfl hl.1 rfl (Nat.le_of_ble_eq_true rfl) dX0_turnTo_40 ⟨Nat.zero_le _, Nat.zero_le _⟩ ?_
        refine lv_iadd hx hb dX0_turnTo_43 ?_
        have hPc := hP.sub (ws' := [(b2, .inl (cI, 8, .inl B_10.2.1))]) [2] rfl
        have hDc := hD.sub (ws' := [(b2, .inl (cI, 8, .inl B_10.2.1))]) [2] (by decide) rfl
        have hFc := va_free (wc := [(b2, .inl (cI, 8, .inl B_10.2.1))]) hD hS hA [2] rfl
        refine va_callv (va_runSN (As := [.ref b2, .int i5_10, .int ((f_X5_at 8 B_10.2.1 i5_10) + (f_J6_bitCount_0f7a4 (f_X5_setIn (B.2.2.2.1 ^^^ x0) i5_10)))]) (rest := []) ⟨hx, hb, hml, hown, hts⟩ (c_X5_put l dC dI cI cJ b2 H.size 8 B_10.2.1 (by decide) i5_10 ((f_X5_at 8 B_10.2.1 i5_10) + (f_J6_bitCount_0f7a4 (f_X5_setIn (B.2.2.2.1 ^^^ x0) i5_10)))) ⟨va_cnB 3 hts gX0_turnTo_X5_put_n48 rfl rfl rfl (nm_RX0_48 hn) (hts (.initialized RX5) (by decide +kernel)) (by decide +kernel) ⟨Nat.le_of_ble_eq_true rfl, Nat.le_of_ble_eq_true rfl⟩, hts (.static yX5_put) (by decide +kernel), trivial⟩ ⟨q_Wblind, q_Wpre hPc hK hn hDc⟩ rfl rfl hl.1 rfl (lv_room (Nat.le_of_ble_eq_true rfl)) dX0_turnTo_44 ⟨Nat.zero_le _, Nat.zero_le _⟩) hS (fun q _ h => hFc q h) hFc (fun u t H1 locs ht hvm hw hB hz1 hk1 hS => ?_)
        obtain ⟨hP1, hK1, hD1⟩ := hB
        rw [ht] at hP1
        obtain ⟨hP, hD⟩ := va_join (wr := [(b0, .inr (0, [.ref b1, .ref b2, .int B_10.2.2.1, .long B_10.2.2.2.1, .long B_10.2.2.2.2.1, .long B_10.2.2.2.2.2])), (b1, .inl (cI, 40, .inl B_10.1))]) (w1 := [(b2, .inl (cI, 8, .inl (f_X5_put 8 B_10.2.1 i5_10 ((f_X5_at 8 B_10.2.1 i5_10) + (f_J6_bitCount_0f7a4 (f_X5_setIn (B.2.2.2.1 ^^^ x0) i5_10))))))]) hP hD [2] [0, 1] rfl rfl (by decide) (by decide) hk1 hFc hP1 hD1
        generalize H1 = H at hP hS ⊢
        have hP : va_P (dC, dI) vwCl (wBd b0 b1 b2 cI (B_10.1, (f_X5_put 8 B_10.2.1 i5_10 ((f_X5_at 8 B_10.2.1 i5_10) + (f_J6_bitCount_0f7a4 (f_X5_setIn (B.2.2.2.1 ^^^ x0) i5_10)))), B_10.2.2.1, B_10.2.2.2.1, B_10.2.2.2.2.1, B_10.2.2.2.2.2)) H := hP
        have hD : va_D A (wBd b0 b1 b2 cI (B_10.1, (f_X5_put 8 B_10.2.1 i5_10 ((f_X5_at 8 B_10.2.1 i5_10) + (f_J6_bitCount_0f7a4 (f_X5_setIn (B.2.2.2.1 ^^^ x0) i5_10)))), B_10.2.2.1, B_10.2.2.2.1, B_10.2.2.2.2.1, B_10.2.2.2.2.2)) := hD
        refine lv_iinc (v := i5_10 + 1) (lv' := [(5, .int (i5_10 + 1)), (3, .long (B.2.2.2.1 ^^^ x0)), (0, .ref b0), (1, .long x0)]) hx hb dX0_turnTo_47 hl (k := 0) rfl rfl (by decide) rfl (fun ls hl => ?_)
        refine lv_goto (tgt := 10) hx hb dX0_turnTo_50 (by decide) ?_
        exact ih (i5_10 + 1) (B_10.1, (f_X5_put 8 B_10.2.1 i5_10 ((f_X5_at 8 B_10.2.1 i5_10) + (f_J6_bitCount_0f7a4 (f_X5_setIn (B.2.2.2.1 ^^^ x0) i5_10)))), B_10.2.2.1, B_10.2.2.2.1, B_10.2.2.2.2.1, B_10.2.2.2.2.2) H locs ls _ (lv_sub hl [0, 1, 2, 3] rfl) hP hD hS hf hex_10
  obtain ⟨z_2, hz_2, hf⟩ := Option.bind_eq_some_iff.mp hf
  refine L_10 1000 0 B H locs ls z_2 (lv_sub hl [0, 1, 2, 3] rfl) hP hD hS hz_2 (fun H locs ls hl hP hD hS => ?_)
  refine lv_iconst (v := 0) hx hb dX0_turnTo_53 (by decide) ?_
  refine lv_istore (lv' := [(5, .int 0), (3, .long (B.2.2.2.1 ^^^ x0)), (0, .ref b0), (1, .long x0)]) hx hb dX0_turnTo_54 hl (by decide) rfl (fun ls hl => ?_)
  have L_56 : ∀ (nn : Nat) (i5_56 : Int32) (B_56 : q_Bd) (H : Heap) (locs : List Loc) (ls : Array Slot) (z_56 : (Int32 × q_Bd)), lv_has ls 6 [(5, .int i5_56), (3, .long (B.2.2.2.1 ^^^ x0)), (0, .ref b0), (1, .long x0)] → va_P (dC, dI) vwCl (wBd b0 b1 b2 cI B_56) H → va_D A (wBd b0 b1 b2 cI B_56) → va_S A s.heap H locs → fl_X0_turnTo_56 x0 B nn i5_56 B_56 = some z_56 → (∀ (H : Heap) (locs : List Loc) (ls : Array Slot), lv_has ls 6 [(5, .int z_56.1), (3, .long (B.2.2.2.1 ^^^ x0)), (0, .ref b0), (1, .long x0)] → va_P (dC, dI) vwCl (wBd b0 b1 b2 cI z_56.2) H → va_D A (wBd b0 b1 b2 cI z_56.2) → va_S A s.heap H locs → W p l e (headSpec wsX0_turnTo ({ frames := 1, cells := 0, slots := 0, locals := 22 } : Room)).room s m [.ref b0, .long x0].toArray below meth c H locs 0 0 (MQ below (va_Qv (S := Unit) (fun _ => True) (fun _ => q_E (dC, dI) vwCl (wBd b0 b1 b2 cI r0) (q_ty cI cJ) A) A) [.ref b0, .long x0].toArray s 0 0 A) (F0 m 89 ls [])) → W p l e (headSpec wsX0_turnTo ({ frames := 1, cells := 0, slots := 0, locals := 22 } : Room)).room s m [.ref b0, .long x0].toArray below meth c H locs 0 0 (MQ below (va_Qv (S := Unit) (fun _ => True) (fun _ => q_E (dC, dI) vwCl (wBd b0 b1 b2 cI r0) (q_ty cI cJ) A) A) [.ref b0, .long x0].toArray s 0 0 A) (F0 m 56 ls []) := by
    intro nn
    induction nn with
    | zero =>
      intro i5_56 B_56 H locs ls z_56 hl hP hD hS hf hex_56
      rw [fl_X0_turnTo_56] at hf
      cases hf
    | succ nn ih =>
      intro i5_56 B_56 H locs ls z_56 hl hP hD hS hf hex_56
      rw [fl_X0_turnTo_56] at hf
      refine lv_iload hx hb dX0_turnTo_56 (lv_at hl 0 rfl) ?_
      refine lv_aload_n hx hb dX0_turnTo_58 rfl (lv_at hl 2 rfl) ?_
      refine va_get (D := (dC, dI)) (ci := 0) (v := .ref b1) (C := RX0) (T := TX0) (N := 6) hx hb hts hi0 hown hK hP 0 rfl rfl 0 (by decide) (hts (.fieldLink RX0 9 RX0 "flips" "[I") (by decide +kernel)) (fun _ h9 => h9) rfl dX0_turnTo_59 ?_
      refine va_alen (v := nI 40) hx hb hK hP 1 0 rfl rfl rfl dX0_turnTo_62 ?_
      refine lv_icmp_ge (tgt := 89) hx hb dX0_turnTo_63 (by decide) (fun c_3 => ?_) (fun c_3 => ?_)
      · replace hf := (if_pos c_3).symm.trans hf
        replace hf := Option.some.inj hf
        subst hf
        exact hex_56 H locs ls (lv_sub hl [0, 1, 2, 3] rfl) hP hD hS
      · replace hf := (if_neg c_3).symm.trans hf
        refine lv_aload_n hx hb dX0_turnTo_66 rfl (lv_at hl 2 rfl) ?_
        refine va_get (D := (dC, dI)) (ci := 0) (v := .ref b1) (C := RX0) (T := TX0) (N := 6) hx hb hts hi0 hown hK hP 0 rfl rfl 0 (by decide) (hts (.fieldLink RX0 9 RX0 "flips" "[I") (by decide +kernel)) (fun _ h9 => h9) rfl dX0_turnTo_67 ?_
        refine lv_iload hx hb dX0_turnTo_70 (lv_at hl 0 rfl) ?_
        refine lv_dup2_11 hx hb dX0_turnTo_72 rfl rfl ?_
        by_cases nc_4 : ¬ q_ix i5_56 40 = true
        · replace hf := (if_neg nc_4).symm.trans hf
          cases hf
        have c_4 := Classical.not_not.mp nc_4
        replace hf := (if_pos c_4).symm.trans hf
        refine va_iald hx hb hK hP 1 0 rfl rfl (q_ix_in c_4) dX0_turnTo_73 ?_
        refine lv_lload_n hx hb dX0_turnTo_74 rfl (lv_at hl 1 rfl) ?_
        refine lv_iload hx hb dX0_turnTo_75 (lv_at hl 0 rfl) ?_
        refine lv_lushr (v := ((B.2.2.2.1 ^^^ x0).toUInt64 >>> (i5_56.toInt64.toUInt64 &&& Int64.toUInt64 63)).toInt64) hx hb dX0_turnTo_77 rfl ?_
        refine lv_lconst (v := 1) hx hb dX0_turnTo_78 (by decide) ?_
        refine lv_land hx hb dX0_turnTo_79 ?_
        refine lv_l2i (v := ((((B.2.2.2.1 ^^^ x0).toUInt64 >>> (i5_56.toInt64.toUInt64 &&& Int64.toUInt64 63)).toInt64) &&& 1).toInt32) hx hb dX0_turnTo_80 rfl ?_
        refine lv_iadd hx hb dX0_turnTo_81 ?_
        refine va_iast hx hb hK hP hD hS 1 0 rfl rfl (q_ix_in c_4) dX0_turnTo_82 (fun H locs hP hD hS => ?_)
        have hP : va_P (dC, dI) vwCl (wBd b0 b1 b2 cI ((upd B_56.1 i5_56.toNatClampNeg ((B_56.1 i5_56.toNatClampNeg) + (((((B.2.2.2.1 ^^^ x0).toUInt64 >>> (i5_56.toInt64.toUInt64 &&& Int64.toUInt64 63)).toInt64) &&& 1).toInt32))), B_56.2.1, B_56.2.2.1, B_56.2.2.2.1, B_56.2.2.2.2.1, B_56.2.2.2.2.2)) H := hP
        have hD : va_D A (wBd b0 b1 b2 cI ((upd B_56.1 i5_56.toNatClampNeg ((B_56.1 i5_56.toNatClampNeg) + (((((B.2.2.2.1 ^^^ x0).toUInt64 >>> (i5_56.toInt64.toUInt64 &&& Int64.toUInt64 63)).toInt64) &&& 1).toInt32))), B_56.2.1, B_56.2.2.1, B_56.2.2.2.1, B_56.2.2.2.2.1, B_56.2.2.2.2.2)) := hD
        refine lv_iinc (v := i5_56 + 1) (lv' := [(5, .int (i5_56 + 1)), (3, .long (B.2.2.2.1 ^^^ x0)), (0, .ref b0), (1, .long x0)]) hx hb dX0_turnTo_83 hl (k := 0) rfl rfl (by decide) rfl (fun ls hl => ?_)
        refine lv_goto (tgt := 56) hx hb dX0_turnTo_86 (by decide) ?_
        exact ih (i5_56 + 1) ((upd B_56.1 i5_56.toNatClampNeg ((B_56.1 i5_56.toNatClampNeg) + (((((B.2.2.2.1 ^^^ x0).toUInt64 >>> (i5_56.toInt64.toUInt64 &&& Int64.toUInt64 63)).toInt64) &&& 1).toInt32))), B_56.2.1, B_56.2.2.1, B_56.2.2.2.1, B_56.2.2.2.2.1, B_56.2.2.2.2.2) H locs ls _ (lv_sub hl [0, 1, 2, 3] rfl) hP hD hS hf hex_56
  obtain ⟨z_5, hz_5, hf⟩ := Option.bind_eq_some_iff.mp hf
  refine L_56 1000 0 z_2.2 H locs ls z_5 (lv_sub hl [0, 1, 2, 3] rfl) hP hD hS hz_5 (fun H locs ls hl hP hD hS => ?_)
  refine lv_aload_n hx hb dX0_turnTo_89 rfl (lv_at hl 2 rfl) ?_
  refine lv_lload_n hx hb dX0_turnTo_90 rfl (lv_at hl 3 rfl) ?_
  refine va_put (D := (dC, dI)) (ci := 0) (v := .long x0) (ty := .long) (C := RX0) (T := TX0) (N := 6) hx hb hts hi0 tyX0 tyX0_ok nmX0 hown hK hP hD hS 0 rfl rfl 3 (by decide) (hts (.fieldLink RX0 22 RX0 "picture" "J") (by decide +kernel)) (fun _ h9 => h9) rfl (by decide +kernel) rfl rfl (Nat.le_of_ble_eq_true rfl) dX0_turnTo_91 (fun H locs hP hD hS => ?_)
  have hP : va_P (dC, dI) vwCl (wBd b0 b1 b2 cI (z_5.2.1, z_5.2.2.1, z_5.2.2.2.1, x0, z_5.2.2.2.2.2.1, z_5.2.2.2.2.2.2)) H := hP
  have hD : va_D A (wBd b0 b1 b2 cI (z_5.2.1, z_5.2.2.1, z_5.2.2.2.1, x0, z_5.2.2.2.2.2.1, z_5.2.2.2.2.2.2)) := hD
  replace hf := Option.some.inj hf
  subst hf
  exact W.vret hx hb hr (fun t ht hW => ⟨⟨(), rfl, trivial, ⟨by rw [ht]; exact hP, va_K.moved hW.alike hK, hD⟩⟩, hS.F ht⟩) hS.2.2 dX0_turnTo_94
def fl_X0_flipsIn_4 (x0 : Int32) (B : q_Bd) : Nat → Int32 → Int32 → Option (Int32 × Int32)
  | 0, _, _ => none
  | nn + 1, i2_4, i3_4 => (if 5 ≤ i3_4 then some (i2_4, i3_4) else fl_X0_flipsIn_4 x0 B nn (i2_4 + (f_X5_at 40 B.1 (f_X5_bitOf x0 i3_4))) (i3_4 + 1))
def f_X0_flipsIn (B : q_Bd) (x0 : Int32) : Option (Int32) := ((fl_X0_flipsIn_4 x0 B 1000 0 0).bind fun z_2 => some z_2.1)
set_option maxHeartbeats 4000000 in
set_option maxRecDepth 100000 in
theorem c_X0_flipsIn (l : Launch) (dC : Nat → ClassId) (dI : Nat → Nat → Nat) (cI cJ : ClassId) (b0 : Nat) (b1 : Nat) (b2 : Nat) (B : q_Bd) (x0 : Int32) (r0 : Int32) (hf : f_X0_flipsIn B x0 = some r0) : Met l yX0_flipsIn wsX0_flipsIn ({ frames := 1, cells := 0, slots := 0, locals := 21 } : Room) (va_Pc [.ref b0, .int x0] (q_B (dC, dI) vwCl (wBd b0 b1 b2 cI B) (q_ty cI cJ))) (k2_QcV (.int r0)) 0 0 (fun _ => False) := by
  refine Met.ofW (cc := cX0_flipsIn) (maxL := 4) (ret := (some .int)) (by decide) rfl ?_
  intro p e s m args below meth c s₁ BB hml hv
  obtain ⟨rfl, hP, hK, hn⟩ := hv
  have hx := BB.exec
  have hb := BB.bytes
  have hr := BB.returns
  have hts := atoms_spec (ws := wsX0_flipsIn) BB.pre
  have hown : s.vm.findClass RX0 = some m.cls := findClass_of_methodNamed BB.named
  have hlocks := BB.notSynchronized
  have hi0 : ∀ w ∈ u_ws RX0 TX0 6, w ∈ wsX0_flipsIn := by decide +kernel
  have hl := lv_entry [.ref b0, .int x0] (n := 4) (Nat.le_of_ble_eq_true rfl)
  rw [lg_entry_eq]
  generalize (lg_sl [.ref b0, .int x0] ++ List.replicate (4 - (lg_sl [.ref b0, .int x0]).length) Slot.unset).toArray = ls at hl ⊢
  have hl : lv_has ls 4 [(0, .ref b0), (1, .int x0)] := hl
  unfold f_X0_flipsIn at hf
  refine lv_iconst (v := 0) hx hb dX0_flipsIn_0 (by decide) ?_
  refine lv_istore_n (lv' := [(2, .int 0), (0, .ref b0), (1, .int x0)]) hx hb dX0_flipsIn_1 rfl hl (by decide) rfl (fun ls hl => ?_)
  refine lv_iconst (v := 0) hx hb dX0_flipsIn_2 (by decide) ?_
  refine lv_istore_n (lv' := [(3, .int 0), (2, .int 0), (0, .ref b0), (1, .int x0)]) hx hb dX0_flipsIn_3 rfl hl (by decide) rfl (fun ls hl => ?_)
  have L_4 : ∀ (nn : Nat) (i2_4 : Int32) (i3_4 : Int32) (ls : Array Slot) (z_4 : (Int32 × Int32)), lv_has ls 4 [(3, .int i3_4), (2, .int i2_4), (0, .ref b0), (1, .int x0)] → fl_X0_flipsIn_4 x0 B nn i2_4 i3_4 = some z_4 → (∀ (ls : Array Slot), lv_has ls 4 [(3, .int z_4.2), (2, .int z_4.1), (0, .ref b0), (1, .int x0)] → W p l e (headSpec wsX0_flipsIn ({ frames := 1, cells := 0, slots := 0, locals := 21 } : Room)).room s m [.ref b0, .int x0].toArray below meth c s.heap [] 0 0 (MQ below (k2_QcV (.int r0)) [.ref b0, .int x0].toArray s 0 0 (fun _ => False)) (F0 m 30 ls [])) → W p l e (headSpec wsX0_flipsIn ({ frames := 1, cells := 0, slots := 0, locals := 21 } : Room)).room s m [.ref b0, .int x0].toArray below meth c s.heap [] 0 0 (MQ below (k2_QcV (.int r0)) [.ref b0, .int x0].toArray s 0 0 (fun _ => False)) (F0 m 4 ls []) := by
    intro nn
    induction nn with
    | zero =>
      intro i2_4 i3_4  ls z_4 hl hf hex_4
      rw [fl_X0_flipsIn_4] at hf
      cases hf
    | succ nn ih =>
      intro i2_4 i3_4  ls z_4 hl hf hex_4
      rw [fl_X0_flipsIn_4] at hf
      refine lv_iload_n hx hb dX0_flipsIn_4 rfl (lv_at hl 0 rfl) ?_
      refine lv_iconst (v := 5) hx hb dX0_flipsIn_5 (by decide) ?_
      refine lv_icmp_ge (tgt := 30) hx hb dX0_flipsIn_6 (by decide) (fun c_1 => ?_) (fun c_1 => ?_)
      · replace hf := (if_pos c_1).symm.trans hf
        replace hf := Option.some.inj hf
        subst hf
        exact hex_4 ls (lv_sub hl [0, 1, 2, 3] rfl)
      · replace hf := (if_neg c_1).symm.trans hf
        refine lv_iload_n hx hb dX0_flipsIn_9 rfl (lv_at hl 1 rfl) ?_
        refine lv_aload_n hx hb dX0_flipsIn_10 rfl (lv_at hl 2 rfl) ?_
        refine va_get (D := (dC, dI)) (ci := 0) (v := .ref b1) (C := RX0) (T := TX0) (N := 6) hx hb hts hi0 hown hK hP 0 rfl rfl 0 (by decide) (hts (.fieldLink RX0 9 RX0 "flips" "[I") (by decide +kernel)) (fun _ h9 => h9) rfl dX0_flipsIn_11 ?_
        refine lv_iload_n hx hb dX0_flipsIn_14 rfl (lv_at hl 3 rfl) ?_
        refine lv_iload_n hx hb dX0_flipsIn_15 rfl (lv_at hl 0 rfl) ?_
        refine q_rSN (As := [.int x0, .int i3_4]) (rest := [.ref b1, .int i2_4]) ⟨hx, hb, hml, hown, hts⟩ (c_X5_bitOf l dC dI cI cJ x0 i3_4) ⟨va_cnB 2 hts gX0_flipsIn_X5_bitOf_n44 rfl rfl rfl (nm_RX0_44 hn) (hts (.initialized RX5) (by decide +kernel)) (by decide +kernel) ⟨Nat.le_of_ble_eq_true rfl, Nat.le_of_ble_eq_true rfl⟩, hts (.static yX5_bitOf) (by decide +kernel), trivial⟩ hK hn (hP.sub (ws' := []) [] rfl) rfl hl.1 rfl (Nat.le_of_ble_eq_true rfl) dX0_flipsIn_16 ⟨Nat.zero_le _, Nat.zero_le _⟩ ?_
        refine q_rSN (As := [.ref b1, .int (f_X5_bitOf x0 i3_4)]) (rest := [.int i2_4]) ⟨hx, hb, hml, hown, hts⟩ (c_X5_at l dC dI cI cJ b1 40 B.1 (by decide) (f_X5_bitOf x0 i3_4)) ⟨va_cnB 2 hts gX0_flipsIn_X5_at_n52 rfl rfl rfl (nm_RX0_52 hn) (hts (.initialized RX5) (by decide +kernel)) (by decide +kernel) ⟨Nat.le_of_ble_eq_true rfl, Nat.le_of_ble_eq_true rfl⟩, hts (.static yX5_at) (by decide +kernel), trivial⟩ hK hn (hP.sub (ws' := [(b1, .inl (cI, 40, .inl B.1))]) [1] rfl) rfl hl.1 rfl (Nat.le_of_ble_eq_true rfl) dX0_flipsIn_19 ⟨Nat.zero_le _, Nat.zero_le _⟩ ?_
        refine lv_iadd hx hb dX0_flipsIn_22 ?_
        refine lv_istore_n (lv' := [(2, .int (i2_4 + (f_X5_at 40 B.1 (f_X5_bitOf x0 i3_4)))), (3, .int i3_4), (0, .ref b0), (1, .int x0)]) hx hb dX0_flipsIn_23 rfl hl (by decide) rfl (fun ls hl => ?_)
        refine lv_iinc (v := i3_4 + 1) (lv' := [(3, .int (i3_4 + 1)), (2, .int (i2_4 + (f_X5_at 40 B.1 (f_X5_bitOf x0 i3_4)))), (0, .ref b0), (1, .int x0)]) hx hb dX0_flipsIn_24 hl (k := 1) rfl rfl (by decide) rfl (fun ls hl => ?_)
        refine lv_goto (tgt := 4) hx hb dX0_flipsIn_27 (by decide) ?_
        exact ih (i2_4 + (f_X5_at 40 B.1 (f_X5_bitOf x0 i3_4))) (i3_4 + 1) ls _ (lv_sub hl [0, 1, 2, 3] rfl) hf hex_4
  obtain ⟨z_2, hz_2, hf⟩ := Option.bind_eq_some_iff.mp hf
  refine L_4 1000 0 0 ls z_2 (lv_sub hl [0, 1, 2, 3] rfl) hz_2 (fun ls hl => ?_)
  refine lv_iload_n hx hb dX0_flipsIn_30 rfl (lv_at hl 1 rfl) ?_
  replace hf := Option.some.inj hf
  exact W.iret (v := z_2.1) hx hb hr (fun t ht hW => ⟨congrArg (fun z => Outcome.returned (some (.int z))) hf, ht⟩) (fun q h => absurd h List.not_mem_nil) dX0_flipsIn_31
def fl_X0_allFlips_4 (B : q_Bd) : Nat → Int32 → Int32 → Option (Int32 × Int32)
  | 0, _, _ => none
  | nn + 1, i1_4, i2_4 => (if B.2.2.1 ≤ i2_4 then some (i1_4, i2_4) else ((f_X0_flipsIn B i2_4).bind fun x_2 => fl_X0_allFlips_4 B nn (i1_4 + x_2) (i2_4 + 1)))
def f_X0_allFlips (B : q_Bd)  : Option (Int32) := ((fl_X0_allFlips_4 B 1000 0 0).bind fun z_3 => some z_3.1)
set_option maxHeartbeats 4000000 in
set_option maxRecDepth 100000 in
theorem c_X0_allFlips (l : Launch) (dC : Nat → ClassId) (dI : Nat → Nat → Nat) (cI cJ : ClassId) (b0 : Nat) (b1 : Nat) (b2 : Nat) (B : q_Bd)  (r0 : Int32) (hf : f_X0_allFlips B = some r0) : Met l yX0_allFlips wsX0_allFlips ({ frames := 2, cells := 0, slots := 0, locals := 44 } : Room) (va_Pc [.ref b0] (q_B (dC, dI) vwCl (wBd b0 b1 b2 cI B) (q_ty cI cJ))) (k2_QcV (.int r0)) 0 0 (fun _ => False) := by
  refine Met.ofW (cc := cX0_allFlips) (maxL := 3) (ret := (some .int)) (by decide) rfl ?_
  intro p e s m args below meth c s₁ BB hml hv
  obtain ⟨rfl, hP, hK, hn⟩ := hv
  have hx := BB.exec
  have hb := BB.bytes
  have hr := BB.returns
  have hts := atoms_spec (ws := wsX0_allFlips) BB.pre
  have hown : s.vm.findClass RX0 = some m.cls := findClass_of_methodNamed BB.named
  have hlocks := BB.notSynchronized
  have hi0 : ∀ w ∈ u_ws RX0 TX0 6, w ∈ wsX0_allFlips := by decide +kernel
  have hl := lv_entry [.ref b0] (n := 3) (Nat.le_of_ble_eq_true rfl)
  rw [lg_entry_eq]
  generalize (lg_sl [.ref b0] ++ List.replicate (3 - (lg_sl [.ref b0]).length) Slot.unset).toArray = ls at hl ⊢
  have hl : lv_has ls 3 [(0, .ref b0)] := hl
  unfold f_X0_allFlips at hf
  refine lv_iconst (v := 0) hx hb dX0_allFlips_0 (by decide) ?_
  refine lv_istore_n (lv' := [(1, .int 0), (0, .ref b0)]) hx hb dX0_allFlips_1 rfl hl (by decide) rfl (fun ls hl => ?_)
  refine lv_iconst (v := 0) hx hb dX0_allFlips_2 (by decide) ?_
  refine lv_istore_n (lv' := [(2, .int 0), (1, .int 0), (0, .ref b0)]) hx hb dX0_allFlips_3 rfl hl (by decide) rfl (fun ls hl => ?_)
  have L_4 : ∀ (nn : Nat) (i1_4 : Int32) (i2_4 : Int32) (ls : Array Slot) (z_4 : (Int32 × Int32)), lv_has ls 3 [(2, .int i2_4), (1, .int i1_4), (0, .ref b0)] → fl_X0_allFlips_4 B nn i1_4 i2_4 = some z_4 → (∀ (ls : Array Slot), lv_has ls 3 [(2, .int z_4.2), (1, .int z_4.1), (0, .ref b0)] → W p l e (headSpec wsX0_allFlips ({ frames := 2, cells := 0, slots := 0, locals := 44 } : Room)).room s m [.ref b0].toArray below meth c s.heap [] 0 0 (MQ below (k2_QcV (.int r0)) [.ref b0].toArray s 0 0 (fun _ => False)) (F0 m 26 ls [])) → W p l e (headSpec wsX0_allFlips ({ frames := 2, cells := 0, slots := 0, locals := 44 } : Room)).room s m [.ref b0].toArray below meth c s.heap [] 0 0 (MQ below (k2_QcV (.int r0)) [.ref b0].toArray s 0 0 (fun _ => False)) (F0 m 4 ls []) := by
    intro nn
    induction nn with
    | zero =>
      intro i1_4 i2_4  ls z_4 hl hf hex_4
      rw [fl_X0_allFlips_4] at hf
      cases hf
    | succ nn ih =>
      intro i1_4 i2_4  ls z_4 hl hf hex_4
      rw [fl_X0_allFlips_4] at hf
      refine lv_iload_n hx hb dX0_allFlips_4 rfl (lv_at hl 0 rfl) ?_
      refine lv_aload_n hx hb dX0_allFlips_5 rfl (lv_at hl 2 rfl) ?_
      refine va_get (D := (dC, dI)) (ci := 0) (v := .int B.2.2.1) (C := RX0) (T := TX0) (N := 6) hx hb hts hi0 hown hK hP 0 rfl rfl 2 (by decide) (hts (.fieldLink RX0 18 RX0 "columns" "I") (by decide +kernel)) (fun _ h9 => h9) rfl dX0_allFlips_6 ?_
      refine lv_icmp_ge (tgt := 26) hx hb dX0_allFlips_9 (by decide) (fun c_1 => ?_) (fun c_1 => ?_)
      · replace hf := (if_pos c_1).symm.trans hf
        replace hf := Option.some.inj hf
        subst hf
        exact hex_4 ls (lv_sub hl [0, 1, 2] rfl)
      · replace hf := (if_neg c_1).symm.trans hf
        refine lv_iload_n hx hb dX0_allFlips_12 rfl (lv_at hl 1 rfl) ?_
        refine lv_aload_n hx hb dX0_allFlips_13 rfl (lv_at hl 2 rfl) ?_
        refine lv_iload_n hx hb dX0_allFlips_14 rfl (lv_at hl 0 rfl) ?_
        obtain ⟨x_2, hx_2, hf⟩ := Option.bind_eq_some_iff.mp hf
        refine q_rV (As := [.int i2_4]) (rest := [.int i1_4]) ⟨hx, hb, hml, hown, hts⟩ (c_X0_flipsIn l dC dI cI cJ b0 b1 b2 B i2_4 x_2 hx_2) (cwV 1 hts gX0_allFlips_X0_flipsIn rfl rfl rfl (by decide +kernel) ⟨Nat.le_of_ble_eq_true rfl, Nat.le_of_ble_eq_true rfl⟩) hK hn hP (ci := 0) rfl rfl rfl hl.1 rfl (Nat.le_of_ble_eq_true rfl) dX0_allFlips_15 ⟨Nat.zero_le _, Nat.zero_le _⟩ ?_
        refine lv_iadd hx hb dX0_allFlips_18 ?_
        refine lv_istore_n (lv' := [(1, .int (i1_4 + x_2)), (2, .int i2_4), (0, .ref b0)]) hx hb dX0_allFlips_19 rfl hl (by decide) rfl (fun ls hl => ?_)
        refine lv_iinc (v := i2_4 + 1) (lv' := [(2, .int (i2_4 + 1)), (1, .int (i1_4 + x_2)), (0, .ref b0)]) hx hb dX0_allFlips_20 hl (k := 1) rfl rfl (by decide) rfl (fun ls hl => ?_)
        refine lv_goto (tgt := 4) hx hb dX0_allFlips_23 (by decide) ?_
        exact ih (i1_4 + x_2) (i2_4 + 1) ls _ (lv_sub hl [0, 1, 2] rfl) hf hex_4
  obtain ⟨z_3, hz_3, hf⟩ := Option.bind_eq_some_iff.mp hf
  refine L_4 1000 0 0 ls z_3 (lv_sub hl [0, 1, 2] rfl) hz_3 (fun ls hl => ?_)
  refine lv_iload_n hx hb dX0_allFlips_26 rfl (lv_at hl 1 rfl) ?_
  replace hf := Option.some.inj hf
  exact W.iret (v := z_3.1) hx hb hr (fun t ht hW => ⟨congrArg (fun z => Outcome.returned (some (.int z))) hf, ht⟩) (fun q h => absurd h List.not_mem_nil) dX0_allFlips_27
def fl_X0_isTrue_2 (B : q_Bd) : Nat → Int32 → Option ((Int32) ⊕ (Int32))
  | 0, _ => none
  | nn + 1, i1_2 => (if B.2.2.1 ≤ i1_2 then some (.inr i1_2) else ((f_X0_flipsIn B i1_2).bind fun x_2 => (if (f_X5_at 8 B.2.1 i1_2) ≤ x_2 then fl_X0_isTrue_2 B nn (i1_2 + 1) else some (.inl 0))))
def f_X0_isTrue (B : q_Bd)  : Option (Int32) := ((fl_X0_isTrue_2 B 1000 0).bind fun z_4 => Sum.elim (fun r_ => some r_) (fun y_5 => (if (lg_cmp (f_X0_withStuck B B.2.2.2.1) B.2.2.2.1) = 0 then some 1 else some 0)) z_4)
set_option maxHeartbeats 4000000 in
set_option maxRecDepth 100000 in
theorem c_X0_isTrue (l : Launch) (dC : Nat → ClassId) (dI : Nat → Nat → Nat) (cI cJ : ClassId) (b0 : Nat) (b1 : Nat) (b2 : Nat) (B : q_Bd)  (r0 : Int32) (hf : f_X0_isTrue B = some r0) : Met l yX0_isTrue wsX0_isTrue ({ frames := 2, cells := 0, slots := 0, locals := 44 } : Room) (va_Pc [.ref b0] (q_B (dC, dI) vwCl (wBd b0 b1 b2 cI B) (q_ty cI cJ))) (k2_QcV (.int r0)) 0 0 (fun _ => False) := by
  refine Met.ofW (cc := cX0_isTrue) (maxL := 2) (ret := (some .boolean)) (by decide) rfl ?_
  intro p e s m args below meth c s₁ BB hml hv
  obtain ⟨rfl, hP, hK, hn⟩ := hv
  have hx := BB.exec
  have hb := BB.bytes
  have hr := BB.returns
  have hts := atoms_spec (ws := wsX0_isTrue) BB.pre
  have hown : s.vm.findClass RX0 = some m.cls := findClass_of_methodNamed BB.named
  have hlocks := BB.notSynchronized
  have hi0 : ∀ w ∈ u_ws RX0 TX0 6, w ∈ wsX0_isTrue := by decide +kernel
  have hl := lv_entry [.ref b0] (n := 2) (Nat.le_of_ble_eq_true rfl)
  rw [lg_entry_eq]
  generalize (lg_sl [.ref b0] ++ List.replicate (2 - (lg_sl [.ref b0]).length) Slot.unset).toArray = ls at hl ⊢
  have hl : lv_has ls 2 [(0, .ref b0)] := hl
  unfold f_X0_isTrue at hf
  refine lv_iconst (v := 0) hx hb dX0_isTrue_0 (by decide) ?_
  refine lv_istore_n (lv' := [(1, .int 0), (0, .ref b0)]) hx hb dX0_isTrue_1 rfl hl (by decide) rfl (fun ls hl => ?_)
  have L_2 : ∀ (nn : Nat) (i1_2 : Int32) (ls : Array Slot) (z_2 : ((Int32) ⊕ (Int32))), lv_has ls 2 [(1, .int i1_2), (0, .ref b0)] → fl_X0_isTrue_2 B nn i1_2 = some z_2 → (∀ r_ : Int32, z_2 = .inl r_ → r_ = r0) → (∀ (y : Int32) (ls : Array Slot), z_2 = .inr y → lv_has ls 2 [(1, .int y), (0, .ref b0)] → W p l e (headSpec wsX0_isTrue ({ frames := 2, cells := 0, slots := 0, locals := 44 } : Room)).room s m [.ref b0].toArray below meth c s.heap [] 0 0 (MQ below (k2_QcV (.int r0)) [.ref b0].toArray s 0 0 (fun _ => False)) (F0 m 34 ls [])) → W p l e (headSpec wsX0_isTrue ({ frames := 2, cells := 0, slots := 0, locals := 44 } : Room)).room s m [.ref b0].toArray below meth c s.heap [] 0 0 (MQ below (k2_QcV (.int r0)) [.ref b0].toArray s 0 0 (fun _ => False)) (F0 m 2 ls []) := by
    intro nn
    induction nn with
    | zero =>
      intro i1_2  ls z_2 hl hf hret_2 hex_2
      rw [fl_X0_isTrue_2] at hf
      cases hf
    | succ nn ih =>
      intro i1_2  ls z_2 hl hf hret_2 hex_2
      rw [fl_X0_isTrue_2] at hf
      refine lv_iload_n hx hb dX0_isTrue_2 rfl (lv_at hl 0 rfl) ?_
      refine lv_aload_n hx hb dX0_isTrue_3 rfl (lv_at hl 1 rfl) ?_
      refine va_get (D := (dC, dI)) (ci := 0) (v := .int B.2.2.1) (C := RX0) (T := TX0) (N := 6) hx hb hts hi0 hown hK hP 0 rfl rfl 2 (by decide) (hts (.fieldLink RX0 18 RX0 "columns" "I") (by decide +kernel)) (fun _ h9 => h9) rfl dX0_isTrue_4 ?_
      refine lv_icmp_ge (tgt := 34) hx hb dX0_isTrue_7 (by decide) (fun c_1 => ?_) (fun c_1 => ?_)
      · replace hf := (if_pos c_1).symm.trans hf
        exact hex_2 i1_2 ls (Option.some.inj hf).symm (lv_sub hl [0, 1] rfl)
      · replace hf := (if_neg c_1).symm.trans hf
        refine lv_aload_n hx hb dX0_isTrue_10 rfl (lv_at hl 1 rfl) ?_
        refine va_get (D := (dC, dI)) (ci := 0) (v := .ref b2) (C := RX0) (T := TX0) (N := 6) hx hb hts hi0 hown hK hP 0 rfl rfl 1 (by decide) (hts (.fieldLink RX0 15 RX0 "wear" "[I") (by decide +kernel)) (fun _ h9 => h9) rfl dX0_isTrue_11 ?_
        refine lv_iload_n hx hb dX0_isTrue_14 rfl (lv_at hl 0 rfl) ?_
        refine q_rSN (As := [.ref b2, .int i1_2]) (rest := []) ⟨hx, hb, hml, hown, hts⟩ (c_X5_at l dC dI cI cJ b2 8 B.2.1 (by decide) i1_2) ⟨va_cnB 2 hts gX0_isTrue_X5_at_n52 rfl rfl rfl (nm_RX0_52 hn) (hts (.initialized RX5) (by decide +kernel)) (by decide +kernel) ⟨Nat.le_of_ble_eq_true rfl, Nat.le_of_ble_eq_true rfl⟩, hts (.static yX5_at) (by decide +kernel), trivial⟩ hK hn (hP.sub (ws' := [(b2, .inl (cI, 8, .inl B.2.1))]) [2] rfl) rfl hl.1 rfl (Nat.le_of_ble_eq_true rfl) dX0_isTrue_15 ⟨Nat.zero_le _, Nat.zero_le _⟩ ?_
        refine lv_aload_n hx hb dX0_isTrue_18 rfl (lv_at hl 1 rfl) ?_
        refine lv_iload_n hx hb dX0_isTrue_19 rfl (lv_at hl 0 rfl) ?_
        obtain ⟨x_2, hx_2, hf⟩ := Option.bind_eq_some_iff.mp hf
        refine q_rV (As := [.int i1_2]) (rest := [.int (f_X5_at 8 B.2.1 i1_2)]) ⟨hx, hb, hml, hown, hts⟩ (c_X0_flipsIn l dC dI cI cJ b0 b1 b2 B i1_2 x_2 hx_2) (cwV 1 hts gX0_isTrue_X0_flipsIn rfl rfl rfl (by decide +kernel) ⟨Nat.le_of_ble_eq_true rfl, Nat.le_of_ble_eq_true rfl⟩) hK hn hP (ci := 0) rfl rfl rfl hl.1 rfl (Nat.le_of_ble_eq_true rfl) dX0_isTrue_20 ⟨Nat.zero_le _, Nat.zero_le _⟩ ?_
        refine lv_icmp_le (tgt := 28) hx hb dX0_isTrue_23 (by decide) (fun c_3 => ?_) (fun c_3 => ?_)
        · replace hf := (if_pos c_3).symm.trans hf
          refine lv_iinc (v := i1_2 + 1) (lv' := [(1, .int (i1_2 + 1)), (0, .ref b0)]) hx hb dX0_isTrue_28 hl (k := 0) rfl rfl (by decide) rfl (fun ls hl => ?_)
          refine lv_goto (tgt := 2) hx hb dX0_isTrue_31 (by decide) ?_
          exact ih (i1_2 + 1) ls _ (lv_sub hl [0, 1] rfl) hf hret_2 hex_2
        · replace hf := (if_neg c_3).symm.trans hf
          refine lv_iconst (v := 0) hx hb dX0_isTrue_26 (by decide) ?_
          replace hf := hret_2 0 (Option.some.inj hf).symm
          exact W.zret (v := 0) (ty := .boolean) hx hb hr rfl (fun t ht hW => ⟨congrArg (fun z => Outcome.returned (some (.int z))) hf, ht⟩) (fun q h => absurd h List.not_mem_nil) dX0_isTrue_27
  obtain ⟨z_4, hz_4, hf⟩ := Option.bind_eq_some_iff.mp hf
  refine L_2 1000 0 ls z_4 (lv_sub hl [0, 1] rfl) hz_4 (fun r_ hz => by rw [hz] at hf; exact Option.some.inj hf) (fun y_5 ls hz hl => ?_)
  subst hz
  simp only [Sum.elim_inr] at hf
  refine lv_aload_n hx hb dX0_isTrue_34 rfl (lv_at hl 1 rfl) ?_
  refine lv_aload_n hx hb dX0_isTrue_35 rfl (lv_at hl 1 rfl) ?_
  refine va_get (D := (dC, dI)) (ci := 0) (v := .long B.2.2.2.1) (C := RX0) (T := TX0) (N := 6) hx hb hts hi0 hown hK hP 0 rfl rfl 3 (by decide) (hts (.fieldLink RX0 22 RX0 "picture" "J") (by decide +kernel)) (fun _ h9 => h9) rfl dX0_isTrue_36 ?_
  refine q_rV (As := [.long B.2.2.2.1]) (rest := []) ⟨hx, hb, hml, hown, hts⟩ (c_X0_withStuck l dC dI cI cJ b0 b1 b2 B B.2.2.2.1) (cwV 1 hts gX0_isTrue_X0_withStuck rfl rfl rfl (by decide +kernel) ⟨Nat.le_of_ble_eq_true rfl, Nat.le_of_ble_eq_true rfl⟩) hK hn hP (ci := 0) rfl rfl rfl hl.1 rfl (Nat.le_of_ble_eq_true rfl) dX0_isTrue_39 ⟨Nat.zero_le _, Nat.zero_le _⟩ ?_
  refine lv_aload_n hx hb dX0_isTrue_42 rfl (lv_at hl 1 rfl) ?_
  refine va_get (D := (dC, dI)) (ci := 0) (v := .long B.2.2.2.1) (C := RX0) (T := TX0) (N := 6) hx hb hts hi0 hown hK hP 0 rfl rfl 3 (by decide) (hts (.fieldLink RX0 22 RX0 "picture" "J") (by decide +kernel)) (fun _ h9 => h9) rfl dX0_isTrue_43 ?_
  refine W.lcmp hx hb dX0_isTrue_46 ?_
  refine lv_if_ne (tgt := 54) hx hb dX0_isTrue_47 (by decide) (fun c_6 => ?_) (fun c_6 => ?_)
  · replace hf := (if_neg c_6).symm.trans hf
    refine lv_iconst (v := 0) hx hb dX0_isTrue_54 (by decide) ?_
    replace hf := Option.some.inj hf
    exact W.zret (v := 0) (ty := .boolean) hx hb hr rfl (fun t ht hW => ⟨congrArg (fun z => Outcome.returned (some (.int z))) hf, ht⟩) (fun q h => absurd h List.not_mem_nil) dX0_isTrue_55
  · replace hf := (if_pos c_6).symm.trans hf
    refine lv_iconst (v := 1) hx hb dX0_isTrue_50 (by decide) ?_
    refine lv_goto (tgt := 55) hx hb dX0_isTrue_51 (by decide) ?_
    replace hf := Option.some.inj hf
    exact W.zret (v := 1) (ty := .boolean) hx hb hr rfl (fun t ht hW => ⟨congrArg (fun z => Outcome.returned (some (.int z))) hf, ht⟩) (fun q h => absurd h List.not_mem_nil) dX0_isTrue_55
