def f_X5_width (F : q_Fl) (B : q_Bd) (x0 : Int32) : Option (Int32 × q_Fl × q_Bd) := (if x0 < 4 then none else (if x0 ≤ 8 then ((f_X0_begin B x0).bind fun x_3 => some (B.2.2.1, (F.1, F.2.1, F.2.2.1, (-1)), x_3)) else none))
set_option maxHeartbeats 4000000 in
set_option maxRecDepth 100000 in
theorem c_X5_width (l : Launch) (dC : Nat → ClassId) (dI : Nat → Nat → Nat) (cI cJ : ClassId) (a : Nat → Nat) (sz : Nat) (F : q_Fl) (B : q_Bd) (K : q_Bk) (N : q_Pl) (I : q_Wi) (T : q_Rt) (x0 : Int32) (r0 : Int32 × q_Fl × q_Bd) (hf : f_X5_width F B x0 = some r0) : Met l yX5_width wsX5_width ({ frames := 1, cells := 0, slots := 0, locals := 22 } : Room) (va_Pc [.ref (a 0), .int x0] (q_W (dC, dI) vwCl (wSg a cI cJ F B K N I T) (q_ty cI cJ) sz)) (va_Qi (S := Unit) (fun r_ _ => r_ = r0.1) (fun _ => q_E (dC, dI) vwCl (wSg a cI cJ r0.2.1 r0.2.2 K N I T) (q_ty cI cJ) (va_A (wSg a cI cJ F B K N I T) sz)) (va_A (wSg a cI cJ F B K N I T) sz)) 0 0 (va_A (wSg a cI cJ F B K N I T) sz) := by
  refine Met.ofW (cc := cX5_width) (maxL := 3) (ret := (some .int)) (by decide) rfl ?_
  intro p e s m args below meth c s₁ BB hml hv
  obtain ⟨rfl, hsz, hP, hK, hn, hD0⟩ := hv
  have hx := BB.exec
  have hb := BB.bytes
  have hr := BB.returns
  have hts := atoms_spec (ws := wsX5_width) BB.pre
  have hown : s.vm.findClass RX5 = some m.cls := findClass_of_methodNamed BB.named
  have hlocks := BB.notSynchronized
  subst hsz
  have hD := hD0.self (sz := s.heap.size)
  generalize hAe : va_A (wSg a cI cJ F B K N I T) s.heap.size = A at hD ⊢
  have hA : ∀ q : Nat, s.heap.size ≤ q → A q := fun q h => by rw [← hAe]; exact Or.inr h
  have hS : va_S A s.heap s.heap [] := va_S.rf
  have hi0 : ∀ w ∈ u_ws RX0 TX0 6, w ∈ wsX5_width := by decide +kernel
  have hi5 : ∀ w ∈ u_ws RX5 TX5 9, w ∈ wsX5_width := by decide +kernel
  have hl := lv_entry [.ref (a 0), .int x0] (n := 3) (Nat.le_of_ble_eq_true rfl)
  rw [lg_entry_eq]
  generalize (lg_sl [.ref (a 0), .int x0] ++ List.replicate (3 - (lg_sl [.ref (a 0), .int x0]).length) Slot.unset).toArray = ls at hl ⊢
  have hl : lv_has ls 3 [(0, .ref (a 0)), (1, .int x0)] := hl
  obtain ⟨H, hH⟩ : ∃ H, H = s.heap := ⟨_, rfl⟩
  obtain ⟨locs, hlocs⟩ : ∃ x : List Loc, x = [] := ⟨_, rfl⟩
  rw [← hH] at hP
  have hS : va_S A s.heap H locs := by rw [hH, hlocs]; exact hS
  suffices hgoal : ∀ (H : Heap) (locs : List Loc), va_P (dC, dI) vwCl (wSg a cI cJ F B K N I T) H → va_S A s.heap H locs → W p l e (headSpec wsX5_width ({ frames := 1, cells := 0, slots := 0, locals := 22 } : Room)).room s m [.ref (a 0), .int x0].toArray below meth c H locs 0 0 (MQ below (va_Qi (S := Unit) (fun r_ _ => r_ = r0.1) (fun _ => q_E (dC, dI) vwCl (wSg a cI cJ r0.2.1 r0.2.2 K N I T) (q_ty cI cJ) A) A) [.ref (a 0), .int x0].toArray s 0 0 A) (F0 m 0 ls []) by
    have h9 := hgoal H locs hP hS
    rw [hH, hlocs] at h9
    exact h9
  clear hP hS hH H hlocs locs
  intro H locs hP hS
  unfold f_X5_width at hf
  refine lv_iload_n hx hb dX5_width_0 rfl (lv_at hl 1 rfl) ?_
  refine lv_iconst (v := 4) hx hb dX5_width_1 (by decide) ?_
  refine lv_icmp_lt (tgt := 11) hx hb dX5_width_2 (by decide) (fun c_1 => ?_) (fun c_1 => ?_)
  · replace hf := (if_pos c_1).symm.trans hf
    cases hf
  · replace hf := (if_neg c_1).symm.trans hf
    refine lv_iload_n hx hb dX5_width_5 rfl (lv_at hl 1 rfl) ?_
    refine lv_bipush (v := 8) hx hb dX5_width_6 (by decide) ?_
    refine lv_icmp_le (tgt := 21) hx hb dX5_width_8 (by decide) (fun c_2 => ?_) (fun c_2 => ?_)
    · replace hf := (if_pos c_2).symm.trans hf
      refine lv_aload_n hx hb dX5_width_21 rfl (lv_at hl 0 rfl) ?_
      refine va_get (D := (dC, dI)) (ci := 5) (v := .ref (a 1)) (C := RX5) (T := TX5) (N := 9) hx hb hts hi5 hown hK hP 0 rfl rfl 0 (by decide) (hts (.fieldLink RX5 10 RX5 "board" "LFlapline$Board;") (by decide +kernel)) (fun _ h9 => h9) rfl dX5_width_22 ?_
      refine va_getN (D := (dC, dI)) (ci := 0) (v := .int B.2.2.1) (C := RX0) (T := TX0) (N := 6) hx hb hts hi0 hown hK hP 1 rfl rfl 2 (by decide) (nf_RX5_61 hn) (fun _ h9 => h9) rfl dX5_width_25 ?_
      refine lv_istore_n (lv' := [(2, .int B.2.2.1), (0, .ref (a 0)), (1, .int x0)]) hx hb dX5_width_28 rfl hl (by decide) rfl (fun ls hl => ?_)
      refine lv_aload_n hx hb dX5_width_29 rfl (lv_at hl 1 rfl) ?_
      refine va_get (D := (dC, dI)) (ci := 5) (v := .ref (a 1)) (C := RX5) (T := TX5) (N := 9) hx hb hts hi5 hown hK hP 0 rfl rfl 0 (by decide) (hts (.fieldLink RX5 10 RX5 "board" "LFlapline$Board;") (by decide +kernel)) (fun _ h9 => h9) rfl dX5_width_30 ?_
      refine lv_iload_n hx hb dX5_width_33 rfl (lv_at hl 2 rfl) ?_
      obtain ⟨x_3, hx_3, hf⟩ := Option.bind_eq_some_iff.mp hf
      have hPc := hP.sub (ws' := (wBd (a 1) (a 2) (a 3) cI B)) [1, 2, 3] rfl
      have hDc := hD.sub (ws' := (wBd (a 1) (a 2) (a 3) cI B)) [1, 2, 3] (by decide) rfl
      have hFc := va_free (wc := (wBd (a 1) (a 2) (a 3) cI B)) hD hS hA [1, 2, 3] rfl
      refine va_callv (va_runVN (As := [.int x0]) (rest := []) ⟨hx, hb, hml, hown, hts⟩ (c_X0_begin l dC dI cI cJ (a 1) (a 2) (a 3) H.size B x0 x_3 hx_3) ⟨va_cnB 1 hts gX5_width_X0_begin_n64 rfl rfl rfl (nm_RX5_64 hn) (hts (.initialized RX0) (by decide +kernel)) (by decide +kernel) ⟨Nat.le_of_ble_eq_true rfl, Nat.le_of_ble_eq_true rfl⟩, hts (.instanceMethod yX0_begin) (by decide +kernel), hts (.selects RX0 yX0_begin yX0_begin) (by decide +kernel)⟩ ⟨q_Wblind, va_recv hK hPc (ci := 0) (q0 := 0) rfl rfl, q_Wpre hPc hK hn hDc⟩ rfl rfl hl.1 rfl (lv_room (Nat.le_of_ble_eq_true rfl)) dX5_width_34 ⟨Nat.zero_le _, Nat.zero_le _⟩) hS (fun q _ h => hFc q h) hFc (fun u t H1 locs ht hvm hw hB hz1 hk1 hS => ?_)
      obtain ⟨hP1, hK1, hD1⟩ := hB
      rw [ht] at hP1
      obtain ⟨hP, hD⟩ := va_join (wr := [(a 0, .inr (5, [.ref (a 1), .ref (a 4), .ref (a 10), .ref (a 14), .ref (a 15), .int F.1, .int F.2.1, .int F.2.2.1, .int F.2.2.2])), ((a 4), .inr (1, [.ref (a 5), .ref (a 6), .ref (a 7), .ref (a 8), .ref (a 9), .int K.2.2.2.2.2.1, .int K.2.2.2.2.2.2])), ((a 5), .inl (cI, 7, .inl K.1)), ((a 6), .inl (cI, 7, .inl K.2.1)), ((a 7), .inl (cI, 8, .inl K.2.2.1)), ((a 8), .inl (cI, 8, .inl K.2.2.2.1)), ((a 9), .inl (cJ, 8, .inr (.inl K.2.2.2.2.1))), ((a 10), .inr (2, [.ref (a 11), .ref (a 12), .ref (a 13), .long N.2.2.2.1, .long N.2.2.2.2.1, .int N.2.2.2.2.2.1, .int N.2.2.2.2.2.2.1, .int N.2.2.2.2.2.2.2])), ((a 11), .inl (cI, 256, .inl N.1)), ((a 12), .inl (cI, 256, .inl N.2.1)), ((a 13), .inl (cI, 8, .inl N.2.2.1)), ((a 14), .inr (4, [.int I.1, .int I.2.1, .int I.2.2.1, .int I.2.2.2.1, .int I.2.2.2.2])), ((a 15), .inr (3, [.ref (a 16), .ref (a 17), .int T.2.2.1, .int T.2.2.2.1, .int T.2.2.2.2])), ((a 16), .inl (cI, 6, .inl T.1)), ((a 17), .inl (cI, 6, .inl T.2.1))]) (w1 := (wBd (a 1) (a 2) (a 3) cI x_3)) hP hD [1, 2, 3] [0, 4, 5, 6, 7, 8, 9, 10, 11, 12, 13, 14, 15, 16, 17] rfl rfl (by decide) (by decide) hk1 hFc hP1 hD1
      generalize H1 = H at hP hS ⊢
      replace hP := hP.sub (ws' := (wSg a cI cJ F x_3 K N I T)) [0, 15, 16, 17, 1, 2, 3, 4, 5, 6, 7, 8, 9, 10, 11, 12, 13, 14] rfl
      replace hD := hD.sub (ws' := (wSg a cI cJ F x_3 K N I T)) [0, 15, 16, 17, 1, 2, 3, 4, 5, 6, 7, 8, 9, 10, 11, 12, 13, 14] (by decide) rfl
      have hP : va_P (dC, dI) vwCl (wSg a cI cJ F x_3 K N I T) H := hP
      have hD : va_D A (wSg a cI cJ F x_3 K N I T) := hD
      refine lv_aload_n hx hb dX5_width_37 rfl (lv_at hl 1 rfl) ?_
      refine lv_iconst (v := (-1)) hx hb dX5_width_38 (by decide) ?_
      refine va_put (D := (dC, dI)) (ci := 5) (v := .int (-1)) (ty := .int) (C := RX5) (T := TX5) (N := 9) hx hb hts hi5 tyX5 tyX5_ok nmX5 hown hK hP hD hS 0 rfl rfl 8 (by decide) (hts (.fieldLink RX5 51 RX5 "shownLast" "I") (by decide +kernel)) (fun _ h9 => h9) rfl (by decide +kernel) rfl rfl (Nat.le_of_ble_eq_true rfl) dX5_width_39 (fun H locs hP hD hS => ?_)
      have hP : va_P (dC, dI) vwCl (wSg a cI cJ (F.1, F.2.1, F.2.2.1, (-1)) x_3 K N I T) H := hP
      have hD : va_D A (wSg a cI cJ (F.1, F.2.1, F.2.2.1, (-1)) x_3 K N I T) := hD
      refine lv_iload_n hx hb dX5_width_42 rfl (lv_at hl 0 rfl) ?_
      replace hf := Option.some.inj hf
      subst hf
      exact W.iret (v := B.2.2.1) hx hb hr (fun t ht hW => ⟨⟨B.2.2.1, (), rfl, rfl, ⟨by rw [ht]; exact hP, va_K.moved hW.alike hK, hD⟩⟩, hS.F ht⟩) hS.2.2 dX5_width_43
    · replace hf := (if_neg c_2).symm.trans hf
      cases hf
def f_X5_power (F : q_Fl) (x0 : Int32) (x1 : Int32) : Option (Int32 × q_Fl) := (if x0 < 1 then none else (if 40 < x0 then none else (if x1 < 0 then none else (if x1 ≤ 10 then some (F.1, (x0, x1, F.2.2.1, F.2.2.2)) else none))))
set_option maxHeartbeats 4000000 in
set_option maxRecDepth 100000 in
theorem c_X5_power (l : Launch) (dC : Nat → ClassId) (dI : Nat → Nat → Nat) (cI cJ : ClassId) (a : Nat → Nat) (sz : Nat) (F : q_Fl) (B : q_Bd) (K : q_Bk) (N : q_Pl) (I : q_Wi) (T : q_Rt) (x0 : Int32) (x1 : Int32) (r0 : Int32 × q_Fl) (hf : f_X5_power F x0 x1 = some r0) : Met l yX5_power wsX5_power ({ frames := 0, cells := 0, slots := 0, locals := 0 } : Room) (va_Pc [.ref (a 0), .int x0, .int x1] (q_W (dC, dI) vwCl (wSg a cI cJ F B K N I T) (q_ty cI cJ) sz)) (va_Qi (S := Unit) (fun r_ _ => r_ = r0.1) (fun _ => q_E (dC, dI) vwCl (wSg a cI cJ r0.2 B K N I T) (q_ty cI cJ) (va_A (wSg a cI cJ F B K N I T) sz)) (va_A (wSg a cI cJ F B K N I T) sz)) 0 0 (va_A (wSg a cI cJ F B K N I T) sz) := by
  refine Met.ofW (cc := cX5_power) (maxL := 4) (ret := (some .int)) (by decide) rfl ?_
  intro p e s m args below meth c s₁ BB hml hv
  obtain ⟨rfl, hsz, hP, hK, hn, hD0⟩ := hv
  have hx := BB.exec
  have hb := BB.bytes
  have hr := BB.returns
  have hts := atoms_spec (ws := wsX5_power) BB.pre
  have hown : s.vm.findClass RX5 = some m.cls := findClass_of_methodNamed BB.named
  have hlocks := BB.notSynchronized
  subst hsz
  have hD := hD0.self (sz := s.heap.size)
  generalize hAe : va_A (wSg a cI cJ F B K N I T) s.heap.size = A at hD ⊢
  have hA : ∀ q : Nat, s.heap.size ≤ q → A q := fun q h => by rw [← hAe]; exact Or.inr h
  have hS : va_S A s.heap s.heap [] := va_S.rf
  have hi5 : ∀ w ∈ u_ws RX5 TX5 9, w ∈ wsX5_power := by decide +kernel
  have hl := lv_entry [.ref (a 0), .int x0, .int x1] (n := 4) (Nat.le_of_ble_eq_true rfl)
  rw [lg_entry_eq]
  generalize (lg_sl [.ref (a 0), .int x0, .int x1] ++ List.replicate (4 - (lg_sl [.ref (a 0), .int x0, .int x1]).length) Slot.unset).toArray = ls at hl ⊢
  have hl : lv_has ls 4 [(0, .ref (a 0)), (1, .int x0), (2, .int x1)] := hl
  obtain ⟨H, hH⟩ : ∃ H, H = s.heap := ⟨_, rfl⟩
  obtain ⟨locs, hlocs⟩ : ∃ x : List Loc, x = [] := ⟨_, rfl⟩
  rw [← hH] at hP
  have hS : va_S A s.heap H locs := by rw [hH, hlocs]; exact hS
  suffices hgoal : ∀ (H : Heap) (locs : List Loc), va_P (dC, dI) vwCl (wSg a cI cJ F B K N I T) H → va_S A s.heap H locs → W p l e (headSpec wsX5_power ({ frames := 0, cells := 0, slots := 0, locals := 0 } : Room)).room s m [.ref (a 0), .int x0, .int x1].toArray below meth c H locs 0 0 (MQ below (va_Qi (S := Unit) (fun r_ _ => r_ = r0.1) (fun _ => q_E (dC, dI) vwCl (wSg a cI cJ r0.2 B K N I T) (q_ty cI cJ) A) A) [.ref (a 0), .int x0, .int x1].toArray s 0 0 A) (F0 m 0 ls []) by
    have h9 := hgoal H locs hP hS
    rw [hH, hlocs] at h9
    exact h9
  clear hP hS hH H hlocs locs
  intro H locs hP hS
  unfold f_X5_power at hf
  refine lv_iload_n hx hb dX5_power_0 rfl (lv_at hl 1 rfl) ?_
  refine lv_iconst (v := 1) hx hb dX5_power_1 (by decide) ?_
  refine lv_icmp_lt (tgt := 21) hx hb dX5_power_2 (by decide) (fun c_1 => ?_) (fun c_1 => ?_)
  · replace hf := (if_pos c_1).symm.trans hf
    cases hf
  · replace hf := (if_neg c_1).symm.trans hf
    refine lv_iload_n hx hb dX5_power_5 rfl (lv_at hl 1 rfl) ?_
    refine lv_bipush (v := 40) hx hb dX5_power_6 (by decide) ?_
    refine lv_icmp_gt (tgt := 21) hx hb dX5_power_8 (by decide) (fun c_2 => ?_) (fun c_2 => ?_)
    · replace hf := (if_pos c_2).symm.trans hf
      cases hf
    · replace hf := (if_neg c_2).symm.trans hf
      refine lv_iload_n hx hb dX5_power_11 rfl (lv_at hl 2 rfl) ?_
      refine lv_if_lt (tgt := 21) hx hb dX5_power_12 (by decide) (fun c_3 => ?_) (fun c_3 => ?_)
      · replace hf := (if_pos c_3).symm.trans hf
        cases hf
      · replace hf := (if_neg c_3).symm.trans hf
        refine lv_iload_n hx hb dX5_power_15 rfl (lv_at hl 2 rfl) ?_
        refine lv_bipush (v := 10) hx hb dX5_power_16 (by decide) ?_
        refine lv_icmp_le (tgt := 31) hx hb dX5_power_18 (by decide) (fun c_4 => ?_) (fun c_4 => ?_)
        · replace hf := (if_pos c_4).symm.trans hf
          refine lv_aload_n hx hb dX5_power_31 rfl (lv_at hl 0 rfl) ?_
          refine va_get (D := (dC, dI)) (ci := 5) (v := .int F.1) (C := RX5) (T := TX5) (N := 9) hx hb hts hi5 hown hK hP 0 rfl rfl 5 (by decide) (hts (.fieldLink RX5 44 RX5 "power" "I") (by decide +kernel)) (fun _ h9 => h9) rfl dX5_power_32 ?_
          refine lv_istore_n (lv' := [(3, .int F.1), (0, .ref (a 0)), (1, .int x0), (2, .int x1)]) hx hb dX5_power_35 rfl hl (by decide) rfl (fun ls hl => ?_)
          refine lv_aload_n hx hb dX5_power_36 rfl (lv_at hl 1 rfl) ?_
          refine lv_iload_n hx hb dX5_power_37 rfl (lv_at hl 2 rfl) ?_
          refine va_put (D := (dC, dI)) (ci := 5) (v := .int x0) (ty := .int) (C := RX5) (T := TX5) (N := 9) hx hb hts hi5 tyX5 tyX5_ok nmX5 hown hK hP hD hS 0 rfl rfl 5 (by decide) (hts (.fieldLink RX5 44 RX5 "power" "I") (by decide +kernel)) (fun _ h9 => h9) rfl (by decide +kernel) rfl rfl (Nat.le_of_ble_eq_true rfl) dX5_power_38 (fun H locs hP hD hS => ?_)
          have hP : va_P (dC, dI) vwCl (wSg a cI cJ (x0, F.2.1, F.2.2.1, F.2.2.2) B K N I T) H := hP
          have hD : va_D A (wSg a cI cJ (x0, F.2.1, F.2.2.1, F.2.2.2) B K N I T) := hD
          refine lv_aload_n hx hb dX5_power_41 rfl (lv_at hl 1 rfl) ?_
          refine lv_iload_n hx hb dX5_power_42 rfl (lv_at hl 3 rfl) ?_
          refine va_put (D := (dC, dI)) (ci := 5) (v := .int x1) (ty := .int) (C := RX5) (T := TX5) (N := 9) hx hb hts hi5 tyX5 tyX5_ok nmX5 hown hK hP hD hS 0 rfl rfl 6 (by decide) (hts (.fieldLink RX5 48 RX5 "blur" "I") (by decide +kernel)) (fun _ h9 => h9) rfl (by decide +kernel) rfl rfl (Nat.le_of_ble_eq_true rfl) dX5_power_43 (fun H locs hP hD hS => ?_)
          have hP : va_P (dC, dI) vwCl (wSg a cI cJ (x0, x1, F.2.2.1, F.2.2.2) B K N I T) H := hP
          have hD : va_D A (wSg a cI cJ (x0, x1, F.2.2.1, F.2.2.2) B K N I T) := hD
          refine lv_iload_n hx hb dX5_power_46 rfl (lv_at hl 0 rfl) ?_
          replace hf := Option.some.inj hf
          subst hf
          exact W.iret (v := F.1) hx hb hr (fun t ht hW => ⟨⟨F.1, (), rfl, rfl, ⟨by rw [ht]; exact hP, va_K.moved hW.alike hK, hD⟩⟩, hS.F ht⟩) hS.2.2 dX5_power_47
        · replace hf := (if_neg c_4).symm.trans hf
          cases hf
def f_X5_letter (K : q_Bk) (x0 : Int32) (x1 : Int32) (x2 : Int32) (x3 : Int32) : Option (Int32 × q_Bk) := (if x0 < 1 then none else (if 3 < x0 then none else (if (f_X5_isColumnSet x1) = 0 then none else (if (f_X5_isColumnSet x2) = 0 then none else (if (f_X5_isColumnSet x3) = 0 then none else (if 2 ≤ x0 then (if 3 ≤ x0 then (if ((x1 ||| x2) ||| x3) = 0 then none else (if K.2.2.2.2.2.1 < 6 then some ((f_X1_addLetter K x0 ((x1 ||| (x2 <<< (5 &&& 31))) ||| (x3 <<< (10 &&& 31)))).1, ((f_X1_addLetter K x0 ((x1 ||| (x2 <<< (5 &&& 31))) ||| (x3 <<< (10 &&& 31)))).2)) else none)) else (if x3 = 0 then (if ((x1 ||| x2) ||| x3) = 0 then none else (if K.2.2.2.2.2.1 < 6 then some ((f_X1_addLetter K x0 ((x1 ||| (x2 <<< (5 &&& 31))) ||| (x3 <<< (10 &&& 31)))).1, ((f_X1_addLetter K x0 ((x1 ||| (x2 <<< (5 &&& 31))) ||| (x3 <<< (10 &&& 31)))).2)) else none)) else none)) else (if x2 = 0 then (if 3 ≤ x0 then (if ((x1 ||| x2) ||| x3) = 0 then none else (if K.2.2.2.2.2.1 < 6 then some ((f_X1_addLetter K x0 ((x1 ||| (x2 <<< (5 &&& 31))) ||| (x3 <<< (10 &&& 31)))).1, ((f_X1_addLetter K x0 ((x1 ||| (x2 <<< (5 &&& 31))) ||| (x3 <<< (10 &&& 31)))).2)) else none)) else (if x3 = 0 then (if ((x1 ||| x2) ||| x3) = 0 then none else (if K.2.2.2.2.2.1 < 6 then some ((f_X1_addLetter K x0 ((x1 ||| (x2 <<< (5 &&& 31))) ||| (x3 <<< (10 &&& 31)))).1, ((f_X1_addLetter K x0 ((x1 ||| (x2 <<< (5 &&& 31))) ||| (x3 <<< (10 &&& 31)))).2)) else none)) else none)) else none)))))))
set_option maxHeartbeats 4000000 in
set_option maxRecDepth 100000 in
theorem c_X5_letter (l : Launch) (dC : Nat → ClassId) (dI : Nat → Nat → Nat) (cI cJ : ClassId) (a : Nat → Nat) (sz : Nat) (F : q_Fl) (B : q_Bd) (K : q_Bk) (N : q_Pl) (I : q_Wi) (T : q_Rt) (x0 : Int32) (x1 : Int32) (x2 : Int32) (x3 : Int32) (r0 : Int32 × q_Bk) (hf : f_X5_letter K x0 x1 x2 x3 = some r0) : Met l yX5_letter wsX5_letter ({ frames := 2, cells := 0, slots := 0, locals := 44 } : Room) (va_Pc [.ref (a 0), .int x0, .int x1, .int x2, .int x3] (q_W (dC, dI) vwCl (wSg a cI cJ F B K N I T) (q_ty cI cJ) sz)) (va_Qi (S := Unit) (fun r_ _ => r_ = r0.1) (fun _ => q_E (dC, dI) vwCl (wSg a cI cJ F B r0.2 N I T) (q_ty cI cJ) (va_A (wSg a cI cJ F B K N I T) sz)) (va_A (wSg a cI cJ F B K N I T) sz)) 0 0 (va_A (wSg a cI cJ F B K N I T) sz) := by
  refine Met.ofW (cc := cX5_letter) (maxL := 5) (ret := (some .int)) (by decide) rfl ?_
  intro p e s m args below meth c s₁ BB hml hv
  obtain ⟨rfl, hsz, hP, hK, hn, hD0⟩ := hv
  have hx := BB.exec
  have hb := BB.bytes
  have hr := BB.returns
  have hts := atoms_spec (ws := wsX5_letter) BB.pre
  have hown : s.vm.findClass RX5 = some m.cls := findClass_of_methodNamed BB.named
  have hlocks := BB.notSynchronized
  subst hsz
  have hD := hD0.self (sz := s.heap.size)
  generalize hAe : va_A (wSg a cI cJ F B K N I T) s.heap.size = A at hD ⊢
  have hA : ∀ q : Nat, s.heap.size ≤ q → A q := fun q h => by rw [← hAe]; exact Or.inr h
  have hS : va_S A s.heap s.heap [] := va_S.rf
  have hi1 : ∀ w ∈ u_ws RX1 TX1 7, w ∈ wsX5_letter := by decide +kernel
  have hi5 : ∀ w ∈ u_ws RX5 TX5 9, w ∈ wsX5_letter := by decide +kernel
  have hl := lv_entry [.ref (a 0), .int x0, .int x1, .int x2, .int x3] (n := 5) (Nat.le_of_ble_eq_true rfl)
  rw [lg_entry_eq]
  generalize (lg_sl [.ref (a 0), .int x0, .int x1, .int x2, .int x3] ++ List.replicate (5 - (lg_sl [.ref (a 0), .int x0, .int x1, .int x2, .int x3]).length) Slot.unset).toArray = ls at hl ⊢
  have hl : lv_has ls 5 [(0, .ref (a 0)), (1, .int x0), (2, .int x1), (3, .int x2), (4, .int x3)] := hl
  obtain ⟨H, hH⟩ : ∃ H, H = s.heap := ⟨_, rfl⟩
  obtain ⟨locs, hlocs⟩ : ∃ x : List Loc, x = [] := ⟨_, rfl⟩
  rw [← hH] at hP
  have hS : va_S A s.heap H locs := by rw [hH, hlocs]; exact hS
  suffices hgoal : ∀ (H : Heap) (locs : List Loc), va_P (dC, dI) vwCl (wSg a cI cJ F B K N I T) H → va_S A s.heap H locs → W p l e (headSpec wsX5_letter ({ frames := 2, cells := 0, slots := 0, locals := 44 } : Room)).room s m [.ref (a 0), .int x0, .int x1, .int x2, .int x3].toArray below meth c H locs 0 0 (MQ below (va_Qi (S := Unit) (fun r_ _ => r_ = r0.1) (fun _ => q_E (dC, dI) vwCl (wSg a cI cJ F B r0.2 N I T) (q_ty cI cJ) A) A) [.ref (a 0), .int x0, .int x1, .int x2, .int x3].toArray s 0 0 A) (F0 m 0 ls []) by
    have h9 := hgoal H locs hP hS
    rw [hH, hlocs] at h9
    exact h9
  clear hP hS hH H hlocs locs
  intro H locs hP hS
  unfold f_X5_letter at hf
  refine lv_iload_n hx hb dX5_letter_0 rfl (lv_at hl 1 rfl) ?_
  refine lv_iconst (v := 1) hx hb dX5_letter_1 (by decide) ?_
  refine lv_icmp_lt (tgt := 32) hx hb dX5_letter_2 (by decide) (fun c_1 => ?_) (fun c_1 => ?_)
  · replace hf := (if_pos c_1).symm.trans hf
    cases hf
  · replace hf := (if_neg c_1).symm.trans hf
    refine lv_iload_n hx hb dX5_letter_5 rfl (lv_at hl 1 rfl) ?_
    refine lv_iconst (v := 3) hx hb dX5_letter_6 (by decide) ?_
    refine lv_icmp_gt (tgt := 32) hx hb dX5_letter_7 (by decide) (fun c_2 => ?_) (fun c_2 => ?_)
    · replace hf := (if_pos c_2).symm.trans hf
      cases hf
    · replace hf := (if_neg c_2).symm.trans hf
      refine lv_iload_n hx hb dX5_letter_10 rfl (lv_at hl 2 rfl) ?_
      refine q_rS (As := [.int x1]) (rest := []) ⟨hx, hb, hml, hown, hts⟩ (c_X5_isColumnSet l dC dI cI cJ x1) (va_cwS 1 hts gX5_letter_X5_isColumnSet rfl rfl rfl (by decide +kernel) ⟨Nat.le_of_ble_eq_true rfl, Nat.le_of_ble_eq_true rfl⟩) hK hn (hP.sub (ws' := []) [] rfl) rfl hl.1 rfl (Nat.le_of_ble_eq_true rfl) dX5_letter_11 ⟨Nat.zero_le _, Nat.zero_le _⟩ ?_
      refine lv_if_eq (tgt := 32) hx hb dX5_letter_14 (by decide) (fun c_3 => ?_) (fun c_3 => ?_)
      · replace hf := (if_pos c_3).symm.trans hf
        cases hf
      · replace hf := (if_neg c_3).symm.trans hf
        refine lv_iload_n hx hb dX5_letter_17 rfl (lv_at hl 3 rfl) ?_
        refine q_rS (As := [.int x2]) (rest := []) ⟨hx, hb, hml, hown, hts⟩ (c_X5_isColumnSet l dC dI cI cJ x2) (va_cwS 1 hts gX5_letter_X5_isColumnSet rfl rfl rfl (by decide +kernel) ⟨Nat.le_of_ble_eq_true rfl, Nat.le_of_ble_eq_true rfl⟩) hK hn (hP.sub (ws' := []) [] rfl) rfl hl.1 rfl (Nat.le_of_ble_eq_true rfl) dX5_letter_18 ⟨Nat.zero_le _, Nat.zero_le _⟩ ?_
        refine lv_if_eq (tgt := 32) hx hb dX5_letter_21 (by decide) (fun c_4 => ?_) (fun c_4 => ?_)
        · replace hf := (if_pos c_4).symm.trans hf
          cases hf
        · replace hf := (if_neg c_4).symm.trans hf
          refine lv_iload hx hb dX5_letter_24 (lv_at hl 4 rfl) ?_
          refine q_rS (As := [.int x3]) (rest := []) ⟨hx, hb, hml, hown, hts⟩ (c_X5_isColumnSet l dC dI cI cJ x3) (va_cwS 1 hts gX5_letter_X5_isColumnSet rfl rfl rfl (by decide +kernel) ⟨Nat.le_of_ble_eq_true rfl, Nat.le_of_ble_eq_true rfl⟩) hK hn (hP.sub (ws' := []) [] rfl) rfl hl.1 rfl (Nat.le_of_ble_eq_true rfl) dX5_letter_26 ⟨Nat.zero_le _, Nat.zero_le _⟩ ?_
          refine lv_if_ne (tgt := 42) hx hb dX5_letter_29 (by decide) (fun c_5 => ?_) (fun c_5 => ?_)
          · replace hf := (if_neg c_5).symm.trans hf
            refine lv_iload_n hx hb dX5_letter_42 rfl (lv_at hl 1 rfl) ?_
            refine lv_iconst (v := 2) hx hb dX5_letter_43 (by decide) ?_
            refine lv_icmp_ge (tgt := 51) hx hb dX5_letter_44 (by decide) (fun c_6 => ?_) (fun c_6 => ?_)
            · replace hf := (if_pos c_6).symm.trans hf
              refine lv_iload_n hx hb dX5_letter_51 rfl (lv_at hl 1 rfl) ?_
              refine lv_iconst (v := 3) hx hb dX5_letter_52 (by decide) ?_
              refine lv_icmp_ge (tgt := 61) hx hb dX5_letter_53 (by decide) (fun c_7 => ?_) (fun c_7 => ?_)
              · replace hf := (if_pos c_7).symm.trans hf
                refine lv_iload_n hx hb dX5_letter_61 rfl (lv_at hl 2 rfl) ?_
                refine lv_iload_n hx hb dX5_letter_62 rfl (lv_at hl 3 rfl) ?_
                refine lv_ior hx hb dX5_letter_63 ?_
                refine lv_iload hx hb dX5_letter_64 (lv_at hl 4 rfl) ?_
                refine lv_ior hx hb dX5_letter_66 ?_
                refine lv_if_ne (tgt := 80) hx hb dX5_letter_67 (by decide) (fun c_8 => ?_) (fun c_8 => ?_)
                · replace hf := (if_neg c_8).symm.trans hf
                  refine lv_aload_n hx hb dX5_letter_80 rfl (lv_at hl 0 rfl) ?_
                  refine va_get (D := (dC, dI)) (ci := 5) (v := .ref (a 4)) (C := RX5) (T := TX5) (N := 9) hx hb hts hi5 hown hK hP 0 rfl rfl 1 (by decide) (hts (.fieldLink RX5 19 RX5 "book" "LFlapline$Book;") (by decide +kernel)) (fun _ h9 => h9) rfl dX5_letter_81 ?_
                  refine va_getN (D := (dC, dI)) (ci := 1) (v := .int K.2.2.2.2.2.1) (C := RX1) (T := TX1) (N := 7) hx hb hts hi1 hown hK hP 4 rfl rfl 5 (by decide) (nf_RX5_78 hn) (fun _ h9 => h9) rfl dX5_letter_84 ?_
                  refine lv_bipush (v := 6) hx hb dX5_letter_87 (by decide) ?_
                  refine lv_icmp_lt (tgt := 102) hx hb dX5_letter_89 (by decide) (fun c_9 => ?_) (fun c_9 => ?_)
                  · replace hf := (if_pos c_9).symm.trans hf
                    refine lv_aload_n hx hb dX5_letter_102 rfl (lv_at hl 0 rfl) ?_
                    refine va_get (D := (dC, dI)) (ci := 5) (v := .ref (a 4)) (C := RX5) (T := TX5) (N := 9) hx hb hts hi5 hown hK hP 0 rfl rfl 1 (by decide) (hts (.fieldLink RX5 19 RX5 "book" "LFlapline$Book;") (by decide +kernel)) (fun _ h9 => h9) rfl dX5_letter_103 ?_
                    refine lv_iload_n hx hb dX5_letter_106 rfl (lv_at hl 1 rfl) ?_
                    refine lv_iload_n hx hb dX5_letter_107 rfl (lv_at hl 2 rfl) ?_
                    refine lv_iload_n hx hb dX5_letter_108 rfl (lv_at hl 3 rfl) ?_
                    refine lv_iconst (v := 5) hx hb dX5_letter_109 (by decide) ?_
                    refine lv_ishl hx hb dX5_letter_110 ?_
                    refine lv_ior hx hb dX5_letter_111 ?_
                    refine lv_iload hx hb dX5_letter_112 (lv_at hl 4 rfl) ?_
                    refine lv_bipush (v := 10) hx hb dX5_letter_114 (by decide) ?_
                    refine lv_ishl hx hb dX5_letter_116 ?_
                    refine lv_ior hx hb dX5_letter_117 ?_
                    have hPc := hP.sub (ws' := (wBk (a 4) (a 5) (a 6) (a 7) (a 8) (a 9) cI cJ K)) [4, 5, 6, 7, 8, 9] rfl
                    have hDc := hD.sub (ws' := (wBk (a 4) (a 5) (a 6) (a 7) (a 8) (a 9) cI cJ K)) [4, 5, 6, 7, 8, 9] (by decide) rfl
                    have hFc := va_free (wc := (wBk (a 4) (a 5) (a 6) (a 7) (a 8) (a 9) cI cJ K)) hD hS hA [4, 5, 6, 7, 8, 9] rfl
                    refine va_calli (va_runVN (As := [.int x0, .int ((x1 ||| (x2 <<< (5 &&& 31))) ||| (x3 <<< (10 &&& 31)))]) (rest := []) ⟨hx, hb, hml, hown, hts⟩ (c_X1_addLetter l dC dI cI cJ (a 4) (a 5) (a 6) (a 7) (a 8) (a 9) H.size K x0 ((x1 ||| (x2 <<< (5 &&& 31))) ||| (x3 <<< (10 &&& 31)))) ⟨va_cnB 2 hts gX5_letter_X1_addLetter_n86 rfl rfl rfl (nm_RX5_86 hn) (hts (.initialized RX1) (by decide +kernel)) (by decide +kernel) ⟨Nat.le_of_ble_eq_true rfl, Nat.le_of_ble_eq_true rfl⟩, hts (.instanceMethod yX1_addLetter) (by decide +kernel), hts (.selects RX1 yX1_addLetter yX1_addLetter) (by decide +kernel)⟩ ⟨q_Wblind, va_recv hK hPc (ci := 1) (q0 := 0) rfl rfl, q_Wpre hPc hK hn hDc⟩ rfl rfl hl.1 rfl (lv_room (Nat.le_of_ble_eq_true rfl)) dX5_letter_118 ⟨Nat.zero_le _, Nat.zero_le _⟩) hS (fun q _ h => hFc q h) hFc (fun r_9 u t H1 locs ht hvm hw hB hz1 hk1 hS => ?_)
                    subst hw
                    obtain ⟨hP1, hK1, hD1⟩ := hB
                    rw [ht] at hP1
                    obtain ⟨hP, hD⟩ := va_join (wr := [(a 0, .inr (5, [.ref (a 1), .ref (a 4), .ref (a 10), .ref (a 14), .ref (a 15), .int F.1, .int F.2.1, .int F.2.2.1, .int F.2.2.2])), ((a 1), .inr (0, [.ref (a 2), .ref (a 3), .int B.2.2.1, .long B.2.2.2.1, .long B.2.2.2.2.1, .long B.2.2.2.2.2])), ((a 2), .inl (cI, 40, .inl B.1)), ((a 3), .inl (cI, 8, .inl B.2.1)), ((a 10), .inr (2, [.ref (a 11), .ref (a 12), .ref (a 13), .long N.2.2.2.1, .long N.2.2.2.2.1, .int N.2.2.2.2.2.1, .int N.2.2.2.2.2.2.1, .int N.2.2.2.2.2.2.2])), ((a 11), .inl (cI, 256, .inl N.1)), ((a 12), .inl (cI, 256, .inl N.2.1)), ((a 13), .inl (cI, 8, .inl N.2.2.1)), ((a 14), .inr (4, [.int I.1, .int I.2.1, .int I.2.2.1, .int I.2.2.2.1, .int I.2.2.2.2])), ((a 15), .inr (3, [.ref (a 16), .ref (a 17), .int T.2.2.1, .int T.2.2.2.1, .int T.2.2.2.2])), ((a 16), .inl (cI, 6, .inl T.1)), ((a 17), .inl (cI, 6, .inl T.2.1))]) (w1 := (wBk (a 4) (a 5) (a 6) (a 7) (a 8) (a 9) cI cJ ((f_X1_addLetter K x0 ((x1 ||| (x2 <<< (5 &&& 31))) ||| (x3 <<< (10 &&& 31)))).2))) hP hD [4, 5, 6, 7, 8, 9] [0, 1, 2, 3, 10, 11, 12, 13, 14, 15, 16, 17] rfl rfl (by decide) (by decide) hk1 hFc hP1 hD1
                    generalize H1 = H at hP hS ⊢
                    replace hP := hP.sub (ws' := (wSg a cI cJ F B ((f_X1_addLetter K x0 ((x1 ||| (x2 <<< (5 &&& 31))) ||| (x3 <<< (10 &&& 31)))).2) N I T)) [0, 1, 2, 3, 12, 13, 14, 15, 16, 17, 4, 5, 6, 7, 8, 9, 10, 11] rfl
                    replace hD := hD.sub (ws' := (wSg a cI cJ F B ((f_X1_addLetter K x0 ((x1 ||| (x2 <<< (5 &&& 31))) ||| (x3 <<< (10 &&& 31)))).2) N I T)) [0, 1, 2, 3, 12, 13, 14, 15, 16, 17, 4, 5, 6, 7, 8, 9, 10, 11] (by decide) rfl
                    have hP : va_P (dC, dI) vwCl (wSg a cI cJ F B ((f_X1_addLetter K x0 ((x1 ||| (x2 <<< (5 &&& 31))) ||| (x3 <<< (10 &&& 31)))).2) N I T) H := hP
                    have hD : va_D A (wSg a cI cJ F B ((f_X1_addLetter K x0 ((x1 ||| (x2 <<< (5 &&& 31))) ||| (x3 <<< (10 &&& 31)))).2) N I T) := hD
                    replace hf := Option.some.inj hf
                    subst hf
                    exact W.iret (v := (f_X1_addLetter K x0 ((x1 ||| (x2 <<< (5 &&& 31))) ||| (x3 <<< (10 &&& 31)))).1) hx hb hr (fun t ht hW => ⟨⟨(f_X1_addLetter K x0 ((x1 ||| (x2 <<< (5 &&& 31))) ||| (x3 <<< (10 &&& 31)))).1, (), rfl, rfl, ⟨by rw [ht]; exact hP, va_K.moved hW.alike hK, hD⟩⟩, hS.F ht⟩) hS.2.2 dX5_letter_121
                  · replace hf := (if_neg c_9).symm.trans hf
                    cases hf
                · replace hf := (if_pos c_8).symm.trans hf
                  cases hf
              · replace hf := (if_neg c_7).symm.trans hf
                refine lv_iload hx hb dX5_letter_56 (lv_at hl 4 rfl) ?_
                refine lv_if_ne (tgt := 70) hx hb dX5_letter_58 (by decide) (fun c_10 => ?_) (fun c_10 => ?_)
                · replace hf := (if_neg c_10).symm.trans hf
                  cases hf
                · replace hf := (if_pos c_10).symm.trans hf
                  refine lv_iload_n hx hb dX5_letter_61 rfl (lv_at hl 2 rfl) ?_
                  refine lv_iload_n hx hb dX5_letter_62 rfl (lv_at hl 3 rfl) ?_
                  refine lv_ior hx hb dX5_letter_63 ?_
                  refine lv_iload hx hb dX5_letter_64 (lv_at hl 4 rfl) ?_
                  refine lv_ior hx hb dX5_letter_66 ?_
                  refine lv_if_ne (tgt := 80) hx hb dX5_letter_67 (by decide) (fun c_11 => ?_) (fun c_11 => ?_)
                  · replace hf := (if_neg c_11).symm.trans hf
                    refine lv_aload_n hx hb dX5_letter_80 rfl (lv_at hl 0 rfl) ?_
                    refine va_get (D := (dC, dI)) (ci := 5) (v := .ref (a 4)) (C := RX5) (T := TX5) (N := 9) hx hb hts hi5 hown hK hP 0 rfl rfl 1 (by decide) (hts (.fieldLink RX5 19 RX5 "book" "LFlapline$Book;") (by decide +kernel)) (fun _ h9 => h9) rfl dX5_letter_81 ?_
                    refine va_getN (D := (dC, dI)) (ci := 1) (v := .int K.2.2.2.2.2.1) (C := RX1) (T := TX1) (N := 7) hx hb hts hi1 hown hK hP 4 rfl rfl 5 (by decide) (nf_RX5_78 hn) (fun _ h9 => h9) rfl dX5_letter_84 ?_
                    refine lv_bipush (v := 6) hx hb dX5_letter_87 (by decide) ?_
                    refine lv_icmp_lt (tgt := 102) hx hb dX5_letter_89 (by decide) (fun c_12 => ?_) (fun c_12 => ?_)
                    · replace hf := (if_pos c_12).symm.trans hf
                      refine lv_aload_n hx hb dX5_letter_102 rfl (lv_at hl 0 rfl) ?_
                      refine va_get (D := (dC, dI)) (ci := 5) (v := .ref (a 4)) (C := RX5) (T := TX5) (N := 9) hx hb hts hi5 hown hK hP 0 rfl rfl 1 (by decide) (hts (.fieldLink RX5 19 RX5 "book" "LFlapline$Book;") (by decide +kernel)) (fun _ h9 => h9) rfl dX5_letter_103 ?_
                      refine lv_iload_n hx hb dX5_letter_106 rfl (lv_at hl 1 rfl) ?_
                      refine lv_iload_n hx hb dX5_letter_107 rfl (lv_at hl 2 rfl) ?_
                      refine lv_iload_n hx hb dX5_letter_108 rfl (lv_at hl 3 rfl) ?_
                      refine lv_iconst (v := 5) hx hb dX5_letter_109 (by decide) ?_
                      refine lv_ishl hx hb dX5_letter_110 ?_
                      refine lv_ior hx hb dX5_letter_111 ?_
                      refine lv_iload hx hb dX5_letter_112 (lv_at hl 4 rfl) ?_
                      refine lv_bipush (v := 10) hx hb dX5_letter_114 (by decide) ?_
                      refine lv_ishl hx hb dX5_letter_116 ?_
                      refine lv_ior hx hb dX5_letter_117 ?_
                      have hPc := hP.sub (ws' := (wBk (a 4) (a 5) (a 6) (a 7) (a 8) (a 9) cI cJ K)) [4, 5, 6, 7, 8, 9] rfl
                      have hDc := hD.sub (ws' := (wBk (a 4) (a 5) (a 6) (a 7) (a 8) (a 9) cI cJ K)) [4, 5, 6, 7, 8, 9] (by decide) rfl
                      have hFc := va_free (wc := (wBk (a 4) (a 5) (a 6) (a 7) (a 8) (a 9) cI cJ K)) hD hS hA [4, 5, 6, 7, 8, 9] rfl
                      refine va_calli (va_runVN (As := [.int x0, .int ((x1 ||| (x2 <<< (5 &&& 31))) ||| (x3 <<< (10 &&& 31)))]) (rest := []) ⟨hx, hb, hml, hown, hts⟩ (c_X1_addLetter l dC dI cI cJ (a 4) (a 5) (a 6) (a 7) (a 8) (a 9) H.size K x0 ((x1 ||| (x2 <<< (5 &&& 31))) ||| (x3 <<< (10 &&& 31)))) ⟨va_cnB 2 hts gX5_letter_X1_addLetter_n86 rfl rfl rfl (nm_RX5_86 hn) (hts (.initialized RX1) (by decide +kernel)) (by decide +kernel) ⟨Nat.le_of_ble_eq_true rfl, Nat.le_of_ble_eq_true rfl⟩, hts (.instanceMethod yX1_addLetter) (by decide +kernel), hts (.selects RX1 yX1_addLetter yX1_addLetter) (by decide +kernel)⟩ ⟨q_Wblind, va_recv hK hPc (ci := 1) (q0 := 0) rfl rfl, q_Wpre hPc hK hn hDc⟩ rfl rfl hl.1 rfl (lv_room (Nat.le_of_ble_eq_true rfl)) dX5_letter_118 ⟨Nat.zero_le _, Nat.zero_le _⟩) hS (fun q _ h => hFc q h) hFc (fun r_9 u t H1 locs ht hvm hw hB hz1 hk1 hS => ?_)
                      subst hw
                      obtain ⟨hP1, hK1, hD1⟩ := hB
                      rw [ht] at hP1
                      obtain ⟨hP, hD⟩ := va_join (wr := [(a 0, .inr (5, [.ref (a 1), .ref (a 4), .ref (a 10), .ref (a 14), .ref (a 15), .int F.1, .int F.2.1, .int F.2.2.1, .int F.2.2.2])), ((a 1), .inr (0, [.ref (a 2), .ref (a 3), .int B.2.2.1, .long B.2.2.2.1, .long B.2.2.2.2.1, .long B.2.2.2.2.2])), ((a 2), .inl (cI, 40, .inl B.1)), ((a 3), .inl (cI, 8, .inl B.2.1)), ((a 10), .inr (2, [.ref (a 11), .ref (a 12), .ref (a 13), .long N.2.2.2.1, .long N.2.2.2.2.1, .int N.2.2.2.2.2.1, .int N.2.2.2.2.2.2.1, .int N.2.2.2.2.2.2.2])), ((a 11), .inl (cI, 256, .inl N.1)), ((a 12), .inl (cI, 256, .inl N.2.1)), ((a 13), .inl (cI, 8, .inl N.2.2.1)), ((a 14), .inr (4, [.int I.1, .int I.2.1, .int I.2.2.1, .int I.2.2.2.1, .int I.2.2.2.2])), ((a 15), .inr (3, [.ref (a 16), .ref (a 17), .int T.2.2.1, .int T.2.2.2.1, .int T.2.2.2.2])), ((a 16), .inl (cI, 6, .inl T.1)), ((a 17), .inl (cI, 6, .inl T.2.1))]) (w1 := (wBk (a 4) (a 5) (a 6) (a 7) (a 8) (a 9) cI cJ ((f_X1_addLetter K x0 ((x1 ||| (x2 <<< (5 &&& 31))) ||| (x3 <<< (10 &&& 31)))).2))) hP hD [4, 5, 6, 7, 8, 9] [0, 1, 2, 3, 10, 11, 12, 13, 14, 15, 16, 17] rfl rfl (by decide) (by decide) hk1 hFc hP1 hD1
                      generalize H1 = H at hP hS ⊢
                      replace hP := hP.sub (ws' := (wSg a cI cJ F B ((f_X1_addLetter K x0 ((x1 ||| (x2 <<< (5 &&& 31))) ||| (x3 <<< (10 &&& 31)))).2) N I T)) [0, 1, 2, 3, 12, 13, 14, 15, 16, 17, 4, 5, 6, 7, 8, 9, 10, 11] rfl
                      replace hD := hD.sub (ws' := (wSg a cI cJ F B ((f_X1_addLetter K x0 ((x1 ||| (x2 <<< (5 &&& 31))) ||| (x3 <<< (10 &&& 31)))).2) N I T)) [0, 1, 2, 3, 12, 13, 14, 15, 16, 17, 4, 5, 6, 7, 8, 9, 10, 11] (by decide) rfl
                      have hP : va_P (dC, dI) vwCl (wSg a cI cJ F B ((f_X1_addLetter K x0 ((x1 ||| (x2 <<< (5 &&& 31))) ||| (x3 <<< (10 &&& 31)))).2) N I T) H := hP
                      have hD : va_D A (wSg a cI cJ F B ((f_X1_addLetter K x0 ((x1 ||| (x2 <<< (5 &&& 31))) ||| (x3 <<< (10 &&& 31)))).2) N I T) := hD
                      replace hf := Option.some.inj hf
                      subst hf
                      exact W.iret (v := (f_X1_addLetter K x0 ((x1 ||| (x2 <<< (5 &&& 31))) ||| (x3 <<< (10 &&& 31)))).1) hx hb hr (fun t ht hW => ⟨⟨(f_X1_addLetter K x0 ((x1 ||| (x2 <<< (5 &&& 31))) ||| (x3 <<< (10 &&& 31)))).1, (), rfl, rfl, ⟨by rw [ht]; exact hP, va_K.moved hW.alike hK, hD⟩⟩, hS.F ht⟩) hS.2.2 dX5_letter_121
                    · replace hf := (if_neg c_12).symm.trans hf
                      cases hf
                  · replace hf := (if_pos c_11).symm.trans hf
                    cases hf
            · replace hf := (if_neg c_6).symm.trans hf
              refine lv_iload_n hx hb dX5_letter_47 rfl (lv_at hl 3 rfl) ?_
              refine lv_if_ne (tgt := 70) hx hb dX5_letter_48 (by decide) (fun c_13 => ?_) (fun c_13 => ?_)
              · replace hf := (if_neg c_13).symm.trans hf
                cases hf
              · replace hf := (if_pos c_13).symm.trans hf
                refine lv_iload_n hx hb dX5_letter_51 rfl (lv_at hl 1 rfl) ?_
                refine lv_iconst (v := 3) hx hb dX5_letter_52 (by decide) ?_
                refine lv_icmp_ge (tgt := 61) hx hb dX5_letter_53 (by decide) (fun c_14 => ?_) (fun c_14 => ?_)
                · replace hf := (if_pos c_14).symm.trans hf
                  refine lv_iload_n hx hb dX5_letter_61 rfl (lv_at hl 2 rfl) ?_
                  refine lv_iload_n hx hb dX5_letter_62 rfl (lv_at hl 3 rfl) ?_
                  refine lv_ior hx hb dX5_letter_63 ?_
                  refine lv_iload hx hb dX5_letter_64 (lv_at hl 4 rfl) ?_
                  refine lv_ior hx hb dX5_letter_66 ?_
                  refine lv_if_ne (tgt := 80) hx hb dX5_letter_67 (by decide) (fun c_15 => ?_) (fun c_15 => ?_)
                  · replace hf := (if_neg c_15).symm.trans hf
                    refine lv_aload_n hx hb dX5_letter_80 rfl (lv_at hl 0 rfl) ?_
                    refine va_get (D := (dC, dI)) (ci := 5) (v := .ref (a 4)) (C := RX5) (T := TX5) (N := 9) hx hb hts hi5 hown hK hP 0 rfl rfl 1 (by decide) (hts (.fieldLink RX5 19 RX5 "book" "LFlapline$Book;") (by decide +kernel)) (fun _ h9 => h9) rfl dX5_letter_81 ?_
                    refine va_getN (D := (dC, dI)) (ci := 1) (v := .int K.2.2.2.2.2.1) (C := RX1) (T := TX1) (N := 7) hx hb hts hi1 hown hK hP 4 rfl rfl 5 (by decide) (nf_RX5_78 hn) (fun _ h9 => h9) rfl dX5_letter_84 ?_
                    refine lv_bipush (v := 6) hx hb dX5_letter_87 (by decide) ?_
                    refine lv_icmp_lt (tgt := 102) hx hb dX5_letter_89 (by decide) (fun c_16 => ?_) (fun c_16 => ?_)
                    · replace hf := (if_pos c_16).symm.trans hf
                      refine lv_aload_n hx hb dX5_letter_102 rfl (lv_at hl 0 rfl) ?_
                      refine va_get (D := (dC, dI)) (ci := 5) (v := .ref (a 4)) (C := RX5) (T := TX5) (N := 9) hx hb hts hi5 hown hK hP 0 rfl rfl 1 (by decide) (hts (.fieldLink RX5 19 RX5 "book" "LFlapline$Book;") (by decide +kernel)) (fun _ h9 => h9) rfl dX5_letter_103 ?_
                      refine lv_iload_n hx hb dX5_letter_106 rfl (lv_at hl 1 rfl) ?_
                      refine lv_iload_n hx hb dX5_letter_107 rfl (lv_at hl 2 rfl) ?_
                      refine lv_iload_n hx hb dX5_letter_108 rfl (lv_at hl 3 rfl) ?_
                      refine lv_iconst (v := 5) hx hb dX5_letter_109 (by decide) ?_
                      refine lv_ishl hx hb dX5_letter_110 ?_
                      refine lv_ior hx hb dX5_letter_111 ?_
                      refine lv_iload hx hb dX5_letter_112 (lv_at hl 4 rfl) ?_
                      refine lv_bipush (v := 10) hx hb dX5_letter_114 (by decide) ?_
                      refine lv_ishl hx hb dX5_letter_116 ?_
                      refine lv_ior hx hb dX5_letter_117 ?_
                      have hPc := hP.sub (ws' := (wBk (a 4) (a 5) (a 6) (a 7) (a 8) (a 9) cI cJ K)) [4, 5, 6, 7, 8, 9] rfl
                      have hDc := hD.sub (ws' := (wBk (a 4) (a 5) (a 6) (a 7) (a 8) (a 9) cI cJ K)) [4, 5, 6, 7, 8, 9] (by decide) rfl
                      have hFc := va_free (wc := (wBk (a 4) (a 5) (a 6) (a 7) (a 8) (a 9) cI cJ K)) hD hS hA [4, 5, 6, 7, 8, 9] rfl
                      refine va_calli (va_runVN (As := [.int x0, .int ((x1 ||| (x2 <<< (5 &&& 31))) ||| (x3 <<< (10 &&& 31)))]) (rest := []) ⟨hx, hb, hml, hown, hts⟩ (c_X1_addLetter l dC dI cI cJ (a 4) (a 5) (a 6) (a 7) (a 8) (a 9) H.size K x0 ((x1 ||| (x2 <<< (5 &&& 31))) ||| (x3 <<< (10 &&& 31)))) ⟨va_cnB 2 hts gX5_letter_X1_addLetter_n86 rfl rfl rfl (nm_RX5_86 hn) (hts (.initialized RX1) (by decide +kernel)) (by decide +kernel) ⟨Nat.le_of_ble_eq_true rfl, Nat.le_of_ble_eq_true rfl⟩, hts (.instanceMethod yX1_addLetter) (by decide +kernel), hts (.selects RX1 yX1_addLetter yX1_addLetter) (by decide +kernel)⟩ ⟨q_Wblind, va_recv hK hPc (ci := 1) (q0 := 0) rfl rfl, q_Wpre hPc hK hn hDc⟩ rfl rfl hl.1 rfl (lv_room (Nat.le_of_ble_eq_true rfl)) dX5_letter_118 ⟨Nat.zero_le _, Nat.zero_le _⟩) hS (fun q _ h => hFc q h) hFc (fun r_9 u t H1 locs ht hvm hw hB hz1 hk1 hS => ?_)
                      subst hw
                      obtain ⟨hP1, hK1, hD1⟩ := hB
                      rw [ht] at hP1
                      obtain ⟨hP, hD⟩ := va_join (wr := [(a 0, .inr (5, [.ref (a 1), .ref (a 4), .ref (a 10), .ref (a 14), .ref (a 15), .int F.1, .int F.2.1, .int F.2.2.1, .int F.2.2.2])), ((a 1), .inr (0, [.ref (a 2), .ref (a 3), .int B.2.2.1, .long B.2.2.2.1, .long B.2.2.2.2.1, .long B.2.2.2.2.2])), ((a 2), .inl (cI, 40, .inl B.1)), ((a 3), .inl (cI, 8, .inl B.2.1)), ((a 10), .inr (2, [.ref (a 11), .ref (a 12), .ref (a 13), .long N.2.2.2.1, .long N.2.2.2.2.1, .int N.2.2.2.2.2.1, .int N.2.2.2.2.2.2.1, .int N.2.2.2.2.2.2.2])), ((a 11), .inl (cI, 256, .inl N.1)), ((a 12), .inl (cI, 256, .inl N.2.1)), ((a 13), .inl (cI, 8, .inl N.2.2.1)), ((a 14), .inr (4, [.int I.1, .int I.2.1, .int I.2.2.1, .int I.2.2.2.1, .int I.2.2.2.2])), ((a 15), .inr (3, [.ref (a 16), .ref (a 17), .int T.2.2.1, .int T.2.2.2.1, .int T.2.2.2.2])), ((a 16), .inl (cI, 6, .inl T.1)), ((a 17), .inl (cI, 6, .inl T.2.1))]) (w1 := (wBk (a 4) (a 5) (a 6) (a 7) (a 8) (a 9) cI cJ ((f_X1_addLetter K x0 ((x1 ||| (x2 <<< (5 &&& 31))) ||| (x3 <<< (10 &&& 31)))).2))) hP hD [4, 5, 6, 7, 8, 9] [0, 1, 2, 3, 10, 11, 12, 13, 14, 15, 16, 17] rfl rfl (by decide) (by decide) hk1 hFc hP1 hD1
                      generalize H1 = H at hP hS ⊢
                      replace hP := hP.sub (ws' := (wSg a cI cJ F B ((f_X1_addLetter K x0 ((x1 ||| (x2 <<< (5 &&& 31))) ||| (x3 <<< (10 &&& 31)))).2) N I T)) [0, 1, 2, 3, 12, 13, 14, 15, 16, 17, 4, 5, 6, 7, 8, 9, 10, 11] rfl
                      replace hD := hD.sub (ws' := (wSg a cI cJ F B ((f_X1_addLetter K x0 ((x1 ||| (x2 <<< (5 &&& 31))) ||| (x3 <<< (10 &&& 31)))).2) N I T)) [0, 1, 2, 3, 12, 13, 14, 15, 16, 17, 4, 5, 6, 7, 8, 9, 10, 11] (by decide) rfl
                      have hP : va_P (dC, dI) vwCl (wSg a cI cJ F B ((f_X1_addLetter K x0 ((x1 ||| (x2 <<< (5 &&& 31))) ||| (x3 <<< (10 &&& 31)))).2) N I T) H := hP
                      have hD : va_D A (wSg a cI cJ F B ((f_X1_addLetter K x0 ((x1 ||| (x2 <<< (5 &&& 31))) ||| (x3 <<< (10 &&& 31)))).2) N I T) := hD
                      replace hf := Option.some.inj hf
                      subst hf
                      exact W.iret (v := (f_X1_addLetter K x0 ((x1 ||| (x2 <<< (5 &&& 31))) ||| (x3 <<< (10 &&& 31)))).1) hx hb hr (fun t ht hW => ⟨⟨(f_X1_addLetter K x0 ((x1 ||| (x2 <<< (5 &&& 31))) ||| (x3 <<< (10 &&& 31)))).1, (), rfl, rfl, ⟨by rw [ht]; exact hP, va_K.moved hW.alike hK, hD⟩⟩, hS.F ht⟩) hS.2.2 dX5_letter_121
                    · replace hf := (if_neg c_16).symm.trans hf
                      cases hf
                  · replace hf := (if_pos c_15).symm.trans hf
                    cases hf
                · replace hf := (if_neg c_14).symm.trans hf
                  refine lv_iload hx hb dX5_letter_56 (lv_at hl 4 rfl) ?_
                  refine lv_if_ne (tgt := 70) hx hb dX5_letter_58 (by decide) (fun c_17 => ?_) (fun c_17 => ?_)
                  · replace hf := (if_neg c_17).symm.trans hf
                    cases hf
                  · replace hf := (if_pos c_17).symm.trans hf
                    refine lv_iload_n hx hb dX5_letter_61 rfl (lv_at hl 2 rfl) ?_
                    refine lv_iload_n hx hb dX5_letter_62 rfl (lv_at hl 3 rfl) ?_
                    refine lv_ior hx hb dX5_letter_63 ?_
                    refine lv_iload hx hb dX5_letter_64 (lv_at hl 4 rfl) ?_
                    refine lv_ior hx hb dX5_letter_66 ?_
                    refine lv_if_ne (tgt := 80) hx hb dX5_letter_67 (by decide) (fun c_18 => ?_) (fun c_18 => ?_)
                    · replace hf := (if_neg c_18).symm.trans hf
                      refine lv_aload_n hx hb dX5_letter_80 rfl (lv_at hl 0 rfl) ?_
                      refine va_get (D := (dC, dI)) (ci := 5) (v := .ref (a 4)) (C := RX5) (T := TX5) (N := 9) hx hb hts hi5 hown hK hP 0 rfl rfl 1 (by decide) (hts (.fieldLink RX5 19 RX5 "book" "LFlapline$Book;") (by decide +kernel)) (fun _ h9 => h9) rfl dX5_letter_81 ?_
                      refine va_getN (D := (dC, dI)) (ci := 1) (v := .int K.2.2.2.2.2.1) (C := RX1) (T := TX1) (N := 7) hx hb hts hi1 hown hK hP 4 rfl rfl 5 (by decide) (nf_RX5_78 hn) (fun _ h9 => h9) rfl dX5_letter_84 ?_
                      refine lv_bipush (v := 6) hx hb dX5_letter_87 (by decide) ?_
                      refine lv_icmp_lt (tgt := 102) hx hb dX5_letter_89 (by decide) (fun c_19 => ?_) (fun c_19 => ?_)
                      · replace hf := (if_pos c_19).symm.trans hf
                        refine lv_aload_n hx hb dX5_letter_102 rfl (lv_at hl 0 rfl) ?_
                        refine va_get (D := (dC, dI)) (ci := 5) (v := .ref (a 4)) (C := RX5) (T := TX5) (N := 9) hx hb hts hi5 hown hK hP 0 rfl rfl 1 (by decide) (hts (.fieldLink RX5 19 RX5 "book" "LFlapline$Book;") (by decide +kernel)) (fun _ h9 => h9) rfl dX5_letter_103 ?_
                        refine lv_iload_n hx hb dX5_letter_106 rfl (lv_at hl 1 rfl) ?_
                        refine lv_iload_n hx hb dX5_letter_107 rfl (lv_at hl 2 rfl) ?_
                        refine lv_iload_n hx hb dX5_letter_108 rfl (lv_at hl 3 rfl) ?_
                        refine lv_iconst (v := 5) hx hb dX5_letter_109 (by decide) ?_
                        refine lv_ishl hx hb dX5_letter_110 ?_
                        refine lv_ior hx hb dX5_letter_111 ?_
                        refine lv_iload hx hb dX5_letter_112 (lv_at hl 4 rfl) ?_
                        refine lv_bipush (v := 10) hx hb dX5_letter_114 (by decide) ?_
                        refine lv_ishl hx hb dX5_letter_116 ?_
                        refine lv_ior hx hb dX5_letter_117 ?_
                        have hPc := hP.sub (ws' := (wBk (a 4) (a 5) (a 6) (a 7) (a 8) (a 9) cI cJ K)) [4, 5, 6, 7, 8, 9] rfl
                        have hDc := hD.sub (ws' := (wBk (a 4) (a 5) (a 6) (a 7) (a 8) (a 9) cI cJ K)) [4, 5, 6, 7, 8, 9] (by decide) rfl
                        have hFc := va_free (wc := (wBk (a 4) (a 5) (a 6) (a 7) (a 8) (a 9) cI cJ K)) hD hS hA [4, 5, 6, 7, 8, 9] rfl
                        refine va_calli (va_runVN (As := [.int x0, .int ((x1 ||| (x2 <<< (5 &&& 31))) ||| (x3 <<< (10 &&& 31)))]) (rest := []) ⟨hx, hb, hml, hown, hts⟩ (c_X1_addLetter l dC dI cI cJ (a 4) (a 5) (a 6) (a 7) (a 8) (a 9) H.size K x0 ((x1 ||| (x2 <<< (5 &&& 31))) ||| (x3 <<< (10 &&& 31)))) ⟨va_cnB 2 hts gX5_letter_X1_addLetter_n86 rfl rfl rfl (nm_RX5_86 hn) (hts (.initialized RX1) (by decide +kernel)) (by decide +kernel) ⟨Nat.le_of_ble_eq_true rfl, Nat.le_of_ble_eq_true rfl⟩, hts (.instanceMethod yX1_addLetter) (by decide +kernel), hts (.selects RX1 yX1_addLetter yX1_addLetter) (by decide +kernel)⟩ ⟨q_Wblind, va_recv hK hPc (ci := 1) (q0 := 0) rfl rfl, q_Wpre hPc hK hn hDc⟩ rfl rfl hl.1 rfl (lv_room (Nat.le_of_ble_eq_true rfl)) dX5_letter_118 ⟨Nat.zero_le _, Nat.zero_le _⟩) hS (fun q _ h => hFc q h) hFc (fun r_9 u t H1 locs ht hvm hw hB hz1 hk1 hS => ?_)
                        subst hw
                        obtain ⟨hP1, hK1, hD1⟩ := hB
                        rw [ht] at hP1
                        obtain ⟨hP, hD⟩ := va_join (wr := [(a 0, .inr (5, [.ref (a 1), .ref (a 4), .ref (a 10), .ref (a 14), .ref (a 15), .int F.1, .int F.2.1, .int F.2.2.1, .int F.2.2.2])), ((a 1), .inr (0, [.ref (a 2), .ref (a 3), .int B.2.2.1, .long B.2.2.2.1, .long B.2.2.2.2.1, .long B.2.2.2.2.2])), ((a 2), .inl (cI, 40, .inl B.1)), ((a 3), .inl (cI, 8, .inl B.2.1)), ((a 10), .inr (2, [.ref (a 11), .ref (a 12), .ref (a 13), .long N.2.2.2.1, .long N.2.2.2.2.1, .int N.2.2.2.2.2.1, .int N.2.2.2.2.2.2.1, .int N.2.2.2.2.2.2.2])), ((a 11), .inl (cI, 256, .inl N.1)), ((a 12), .inl (cI, 256, .inl N.2.1)), ((a 13), .inl (cI, 8, .inl N.2.2.1)), ((a 14), .inr (4, [.int I.1, .int I.2.1, .int I.2.2.1, .int I.2.2.2.1, .int I.2.2.2.2])), ((a 15), .inr (3, [.ref (a 16), .ref (a 17), .int T.2.2.1, .int T.2.2.2.1, .int T.2.2.2.2])), ((a 16), .inl (cI, 6, .inl T.1)), ((a 17), .inl (cI, 6, .inl T.2.1))]) (w1 := (wBk (a 4) (a 5) (a 6) (a 7) (a 8) (a 9) cI cJ ((f_X1_addLetter K x0 ((x1 ||| (x2 <<< (5 &&& 31))) ||| (x3 <<< (10 &&& 31)))).2))) hP hD [4, 5, 6, 7, 8, 9] [0, 1, 2, 3, 10, 11, 12, 13, 14, 15, 16, 17] rfl rfl (by decide) (by decide) hk1 hFc hP1 hD1
                        generalize H1 = H at hP hS ⊢
                        replace hP := hP.sub (ws' := (wSg a cI cJ F B ((f_X1_addLetter K x0 ((x1 ||| (x2 <<< (5 &&& 31))) ||| (x3 <<< (10 &&& 31)))).2) N I T)) [0, 1, 2, 3, 12, 13, 14, 15, 16, 17, 4, 5, 6, 7, 8, 9, 10, 11] rfl
                        replace hD := hD.sub (ws' := (wSg a cI cJ F B ((f_X1_addLetter K x0 ((x1 ||| (x2 <<< (5 &&& 31))) ||| (x3 <<< (10 &&& 31)))).2) N I T)) [0, 1, 2, 3, 12, 13, 14, 15, 16, 17, 4, 5, 6, 7, 8, 9, 10, 11] (by decide) rfl
                        have hP : va_P (dC, dI) vwCl (wSg a cI cJ F B ((f_X1_addLetter K x0 ((x1 ||| (x2 <<< (5 &&& 31))) ||| (x3 <<< (10 &&& 31)))).2) N I T) H := hP
                        have hD : va_D A (wSg a cI cJ F B ((f_X1_addLetter K x0 ((x1 ||| (x2 <<< (5 &&& 31))) ||| (x3 <<< (10 &&& 31)))).2) N I T) := hD
                        replace hf := Option.some.inj hf
                        subst hf
                        exact W.iret (v := (f_X1_addLetter K x0 ((x1 ||| (x2 <<< (5 &&& 31))) ||| (x3 <<< (10 &&& 31)))).1) hx hb hr (fun t ht hW => ⟨⟨(f_X1_addLetter K x0 ((x1 ||| (x2 <<< (5 &&& 31))) ||| (x3 <<< (10 &&& 31)))).1, (), rfl, rfl, ⟨by rw [ht]; exact hP, va_K.moved hW.alike hK, hD⟩⟩, hS.F ht⟩) hS.2.2 dX5_letter_121
                      · replace hf := (if_neg c_19).symm.trans hf
                        cases hf
                    · replace hf := (if_pos c_18).symm.trans hf
                      cases hf
          · replace hf := (if_pos c_5).symm.trans hf
            cases hf
def f_X5_list (K : q_Bk) (x0 : Int32) : Option (Int32 × q_Bk) := ((f_X1_canSpell K x0).bind fun x_1 => (if x_1 = 0 then none else (if 8 ≤ K.2.2.2.2.2.2 then none else ((f_X1_hasRow K x0).bind fun x_4 => (if x_4 = 0 then ((f_X1_addLine K x0).bind fun x_6 => some (x_6.1, x_6.2)) else none)))))
set_option maxHeartbeats 4000000 in
set_option maxRecDepth 100000 in
theorem c_X5_list (l : Launch) (dC : Nat → ClassId) (dI : Nat → Nat → Nat) (cI cJ : ClassId) (a : Nat → Nat) (sz : Nat) (F : q_Fl) (B : q_Bd) (K : q_Bk) (N : q_Pl) (I : q_Wi) (T : q_Rt) (x0 : Int32) (r0 : Int32 × q_Bk) (hf : f_X5_list K x0 = some r0) : Met l yX5_list wsX5_list ({ frames := 3, cells := 0, slots := 0, locals := 69 } : Room) (va_Pc [.ref (a 0), .int x0] (q_W (dC, dI) vwCl (wSg a cI cJ F B K N I T) (q_ty cI cJ) sz)) (va_Qi (S := Unit) (fun r_ _ => r_ = r0.1) (fun _ => q_E (dC, dI) vwCl (wSg a cI cJ F B r0.2 N I T) (q_ty cI cJ) (va_A (wSg a cI cJ F B K N I T) sz)) (va_A (wSg a cI cJ F B K N I T) sz)) 0 0 (va_A (wSg a cI cJ F B K N I T) sz) := by
  refine Met.ofW (cc := cX5_list) (maxL := 2) (ret := (some .int)) (by decide) rfl ?_
  intro p e s m args below meth c s₁ BB hml hv
  obtain ⟨rfl, hsz, hP, hK, hn, hD0⟩ := hv
  have hx := BB.exec
  have hb := BB.bytes
  have hr := BB.returns
  have hts := atoms_spec (ws := wsX5_list) BB.pre
  have hown : s.vm.findClass RX5 = some m.cls := findClass_of_methodNamed BB.named
  have hlocks := BB.notSynchronized
  subst hsz
  have hD := hD0.self (sz := s.heap.size)
  generalize hAe : va_A (wSg a cI cJ F B K N I T) s.heap.size = A at hD ⊢
  have hA : ∀ q : Nat, s.heap.size ≤ q → A q := fun q h => by rw [← hAe]; exact Or.inr h
  have hS : va_S A s.heap s.heap [] := va_S.rf
  have hi1 : ∀ w ∈ u_ws RX1 TX1 7, w ∈ wsX5_list := by decide +kernel
  have hi5 : ∀ w ∈ u_ws RX5 TX5 9, w ∈ wsX5_list := by decide +kernel
  have hl := lv_entry [.ref (a 0), .int x0] (n := 2) (Nat.le_of_ble_eq_true rfl)
  rw [lg_entry_eq]
  generalize (lg_sl [.ref (a 0), .int x0] ++ List.replicate (2 - (lg_sl [.ref (a 0), .int x0]).length) Slot.unset).toArray = ls at hl ⊢
  have hl : lv_has ls 2 [(0, .ref (a 0)), (1, .int x0)] := hl
  obtain ⟨H, hH⟩ : ∃ H, H = s.heap := ⟨_, rfl⟩
  obtain ⟨locs, hlocs⟩ : ∃ x : List Loc, x = [] := ⟨_, rfl⟩
  rw [← hH] at hP
  have hS : va_S A s.heap H locs := by rw [hH, hlocs]; exact hS
  suffices hgoal : ∀ (H : Heap) (locs : List Loc), va_P (dC, dI) vwCl (wSg a cI cJ F B K N I T) H → va_S A s.heap H locs → W p l e (headSpec wsX5_list ({ frames := 3, cells := 0, slots := 0, locals := 69 } : Room)).room s m [.ref (a 0), .int x0].toArray below meth c H locs 0 0 (MQ below (va_Qi (S := Unit) (fun r_ _ => r_ = r0.1) (fun _ => q_E (dC, dI) vwCl (wSg a cI cJ F B r0.2 N I T) (q_ty cI cJ) A) A) [.ref (a 0), .int x0].toArray s 0 0 A) (F0 m 0 ls []) by
    have h9 := hgoal H locs hP hS
    rw [hH, hlocs] at h9
    exact h9
  clear hP hS hH H hlocs locs
  intro H locs hP hS
  unfold f_X5_list at hf
  refine lv_aload_n hx hb dX5_list_0 rfl (lv_at hl 0 rfl) ?_
  refine va_get (D := (dC, dI)) (ci := 5) (v := .ref (a 4)) (C := RX5) (T := TX5) (N := 9) hx hb hts hi5 hown hK hP 0 rfl rfl 1 (by decide) (hts (.fieldLink RX5 19 RX5 "book" "LFlapline$Book;") (by decide +kernel)) (fun _ h9 => h9) rfl dX5_list_1 ?_
  refine lv_iload_n hx hb dX5_list_4 rfl (lv_at hl 1 rfl) ?_
  obtain ⟨x_1, hx_1, hf⟩ := Option.bind_eq_some_iff.mp hf
  refine q_rVN (As := [.int x0]) (rest := []) ⟨hx, hb, hml, hown, hts⟩ (c_X1_canSpell l dC dI cI cJ (a 4) (a 5) (a 6) (a 7) (a 8) (a 9) K x0 x_1 hx_1) ⟨va_cnB 1 hts gX5_list_X1_canSpell_n90 rfl rfl rfl (nm_RX5_90 hn) (hts (.initialized RX1) (by decide +kernel)) (by decide +kernel) ⟨Nat.le_of_ble_eq_true rfl, Nat.le_of_ble_eq_true rfl⟩, hts (.instanceMethod yX1_canSpell) (by decide +kernel), hts (.selects RX1 yX1_canSpell yX1_canSpell) (by decide +kernel)⟩ hK hn (hP.sub (ws' := (wBk (a 4) (a 5) (a 6) (a 7) (a 8) (a 9) cI cJ K)) [4, 5, 6, 7, 8, 9] rfl) (ci := 1) rfl rfl rfl hl.1 rfl (Nat.le_of_ble_eq_true rfl) dX5_list_5 ⟨Nat.zero_le _, Nat.zero_le _⟩ ?_
  refine lv_if_ne (tgt := 21) hx hb dX5_list_8 (by decide) (fun c_2 => ?_) (fun c_2 => ?_)
  · replace hf := (if_neg c_2).symm.trans hf
    refine lv_aload_n hx hb dX5_list_21 rfl (lv_at hl 0 rfl) ?_
    refine va_get (D := (dC, dI)) (ci := 5) (v := .ref (a 4)) (C := RX5) (T := TX5) (N := 9) hx hb hts hi5 hown hK hP 0 rfl rfl 1 (by decide) (hts (.fieldLink RX5 19 RX5 "book" "LFlapline$Book;") (by decide +kernel)) (fun _ h9 => h9) rfl dX5_list_22 ?_
    refine va_getN (D := (dC, dI)) (ci := 1) (v := .int K.2.2.2.2.2.2) (C := RX1) (T := TX1) (N := 7) hx hb hts hi1 hown hK hP 4 rfl rfl 6 (by decide) (nf_RX5_95 hn) (fun _ h9 => h9) rfl dX5_list_25 ?_
    refine lv_bipush (v := 8) hx hb dX5_list_28 (by decide) ?_
    refine lv_icmp_ge (tgt := 44) hx hb dX5_list_30 (by decide) (fun c_3 => ?_) (fun c_3 => ?_)
    · replace hf := (if_pos c_3).symm.trans hf
      cases hf
    · replace hf := (if_neg c_3).symm.trans hf
      refine lv_aload_n hx hb dX5_list_33 rfl (lv_at hl 0 rfl) ?_
      refine va_get (D := (dC, dI)) (ci := 5) (v := .ref (a 4)) (C := RX5) (T := TX5) (N := 9) hx hb hts hi5 hown hK hP 0 rfl rfl 1 (by decide) (hts (.fieldLink RX5 19 RX5 "book" "LFlapline$Book;") (by decide +kernel)) (fun _ h9 => h9) rfl dX5_list_34 ?_
      refine lv_iload_n hx hb dX5_list_37 rfl (lv_at hl 1 rfl) ?_
      obtain ⟨x_4, hx_4, hf⟩ := Option.bind_eq_some_iff.mp hf
      refine q_rVN (As := [.int x0]) (rest := []) ⟨hx, hb, hml, hown, hts⟩ (c_X1_hasRow l dC dI cI cJ (a 4) (a 5) (a 6) (a 7) (a 8) (a 9) K x0 x_4 hx_4) ⟨va_cnB 1 hts gX5_list_X1_hasRow_n98 rfl rfl rfl (nm_RX5_98 hn) (hts (.initialized RX1) (by decide +kernel)) (by decide +kernel) ⟨Nat.le_of_ble_eq_true rfl, Nat.le_of_ble_eq_true rfl⟩, hts (.instanceMethod yX1_hasRow) (by decide +kernel), hts (.selects RX1 yX1_hasRow yX1_hasRow) (by decide +kernel)⟩ hK hn (hP.sub (ws' := (wBk (a 4) (a 5) (a 6) (a 7) (a 8) (a 9) cI cJ K)) [4, 5, 6, 7, 8, 9] rfl) (ci := 1) rfl rfl rfl hl.1 rfl (Nat.le_of_ble_eq_true rfl) dX5_list_38 ⟨Nat.zero_le _, Nat.zero_le _⟩ ?_
      refine lv_if_eq (tgt := 54) hx hb dX5_list_41 (by decide) (fun c_5 => ?_) (fun c_5 => ?_)
      · replace hf := (if_pos c_5).symm.trans hf
        refine lv_aload_n hx hb dX5_list_54 rfl (lv_at hl 0 rfl) ?_
        refine va_get (D := (dC, dI)) (ci := 5) (v := .ref (a 4)) (C := RX5) (T := TX5) (N := 9) hx hb hts hi5 hown hK hP 0 rfl rfl 1 (by decide) (hts (.fieldLink RX5 19 RX5 "book" "LFlapline$Book;") (by decide +kernel)) (fun _ h9 => h9) rfl dX5_list_55 ?_
        refine lv_iload_n hx hb dX5_list_58 rfl (lv_at hl 1 rfl) ?_
        obtain ⟨x_6, hx_6, hf⟩ := Option.bind_eq_some_iff.mp hf
        have hPc := hP.sub (ws' := (wBk (a 4) (a 5) (a 6) (a 7) (a 8) (a 9) cI cJ K)) [4, 5, 6, 7, 8, 9] rfl
        have hDc := hD.sub (ws' := (wBk (a 4) (a 5) (a 6) (a 7) (a 8) (a 9) cI cJ K)) [4, 5, 6, 7, 8, 9] (by decide) rfl
        have hFc := va_free (wc := (wBk (a 4) (a 5) (a 6) (a 7) (a 8) (a 9) cI cJ K)) hD hS hA [4, 5, 6, 7, 8, 9] rfl
        refine va_calli (va_runVN (As := [.int x0]) (rest := []) ⟨hx, hb, hml, hown, hts⟩ (c_X1_addLine l dC dI cI cJ (a 4) (a 5) (a 6) (a 7) (a 8) (a 9) H.size K x0 x_6 hx_6) ⟨va_cnB 1 hts gX5_list_X1_addLine_n103 rfl rfl rfl (nm_RX5_103 hn) (hts (.initialized RX1) (by decide +kernel)) (by decide +kernel) ⟨Nat.le_of_ble_eq_true rfl, Nat.le_of_ble_eq_true rfl⟩, hts (.instanceMethod yX1_addLine) (by decide +kernel), hts (.selects RX1 yX1_addLine yX1_addLine) (by decide +kernel)⟩ ⟨q_Wblind, va_recv hK hPc (ci := 1) (q0 := 0) rfl rfl, q_Wpre hPc hK hn hDc⟩ rfl rfl hl.1 rfl (lv_room (Nat.le_of_ble_eq_true rfl)) dX5_list_59 ⟨Nat.zero_le _, Nat.zero_le _⟩) hS (fun q _ h => hFc q h) hFc (fun r_9 u t H1 locs ht hvm hw hB hz1 hk1 hS => ?_)
        subst hw
        obtain ⟨hP1, hK1, hD1⟩ := hB
        rw [ht] at hP1
        obtain ⟨hP, hD⟩ := va_join (wr := [(a 0, .inr (5, [.ref (a 1), .ref (a 4), .ref (a 10), .ref (a 14), .ref (a 15), .int F.1, .int F.2.1, .int F.2.2.1, .int F.2.2.2])), ((a 1), .inr (0, [.ref (a 2), .ref (a 3), .int B.2.2.1, .long B.2.2.2.1, .long B.2.2.2.2.1, .long B.2.2.2.2.2])), ((a 2), .inl (cI, 40, .inl B.1)), ((a 3), .inl (cI, 8, .inl B.2.1)), ((a 10), .inr (2, [.ref (a 11), .ref (a 12), .ref (a 13), .long N.2.2.2.1, .long N.2.2.2.2.1, .int N.2.2.2.2.2.1, .int N.2.2.2.2.2.2.1, .int N.2.2.2.2.2.2.2])), ((a 11), .inl (cI, 256, .inl N.1)), ((a 12), .inl (cI, 256, .inl N.2.1)), ((a 13), .inl (cI, 8, .inl N.2.2.1)), ((a 14), .inr (4, [.int I.1, .int I.2.1, .int I.2.2.1, .int I.2.2.2.1, .int I.2.2.2.2])), ((a 15), .inr (3, [.ref (a 16), .ref (a 17), .int T.2.2.1, .int T.2.2.2.1, .int T.2.2.2.2])), ((a 16), .inl (cI, 6, .inl T.1)), ((a 17), .inl (cI, 6, .inl T.2.1))]) (w1 := (wBk (a 4) (a 5) (a 6) (a 7) (a 8) (a 9) cI cJ x_6.2)) hP hD [4, 5, 6, 7, 8, 9] [0, 1, 2, 3, 10, 11, 12, 13, 14, 15, 16, 17] rfl rfl (by decide) (by decide) hk1 hFc hP1 hD1
        generalize H1 = H at hP hS ⊢
        replace hP := hP.sub (ws' := (wSg a cI cJ F B x_6.2 N I T)) [0, 1, 2, 3, 12, 13, 14, 15, 16, 17, 4, 5, 6, 7, 8, 9, 10, 11] rfl
        replace hD := hD.sub (ws' := (wSg a cI cJ F B x_6.2 N I T)) [0, 1, 2, 3, 12, 13, 14, 15, 16, 17, 4, 5, 6, 7, 8, 9, 10, 11] (by decide) rfl
        have hP : va_P (dC, dI) vwCl (wSg a cI cJ F B x_6.2 N I T) H := hP
        have hD : va_D A (wSg a cI cJ F B x_6.2 N I T) := hD
        replace hf := Option.some.inj hf
        subst hf
        exact W.iret (v := x_6.1) hx hb hr (fun t ht hW => ⟨⟨x_6.1, (), rfl, rfl, ⟨by rw [ht]; exact hP, va_K.moved hW.alike hK, hD⟩⟩, hS.F ht⟩) hS.2.2 dX5_list_62
      · replace hf := (if_neg c_5).symm.trans hf
        cases hf
  · replace hf := (if_pos c_2).symm.trans hf
    cases hf
def f_X5_stick (B : q_Bd) (x0 : Int32) (x1 : Int32) (x2 : Int32) : Option (Int32 × q_Bd) := ((f_X5_needDot B x0 x1).bind fun x_1 => (if x2 < (-1) then none else (if x2 ≤ 1 then some ((f_X0_faceOf B x0 x1), (f_X0_fix B x0 x1 x2)) else none)))
set_option maxHeartbeats 4000000 in
set_option maxRecDepth 100000 in
theorem c_X5_stick (l : Launch) (dC : Nat → ClassId) (dI : Nat → Nat → Nat) (cI cJ : ClassId) (a : Nat → Nat) (sz : Nat) (F : q_Fl) (B : q_Bd) (K : q_Bk) (N : q_Pl) (I : q_Wi) (T : q_Rt) (x0 : Int32) (x1 : Int32) (x2 : Int32) (r0 : Int32 × q_Bd) (hf : f_X5_stick B x0 x1 x2 = some r0) : Met l yX5_stick wsX5_stick ({ frames := 3, cells := 0, slots := 0, locals := 67 } : Room) (va_Pc [.ref (a 0), .int x0, .int x1, .int x2] (q_W (dC, dI) vwCl (wSg a cI cJ F B K N I T) (q_ty cI cJ) sz)) (va_Qi (S := Unit) (fun r_ _ => r_ = r0.1) (fun _ => q_E (dC, dI) vwCl (wSg a cI cJ F r0.2 K N I T) (q_ty cI cJ) (va_A (wSg a cI cJ F B K N I T) sz)) (va_A (wSg a cI cJ F B K N I T) sz)) 0 0 (va_A (wSg a cI cJ F B K N I T) sz) := by
  refine Met.ofW (cc := cX5_stick) (maxL := 5) (ret := (some .int)) (by decide) rfl ?_
  intro p e s m args below meth c s₁ BB hml hv
  obtain ⟨rfl, hsz, hP, hK, hn, hD0⟩ := hv
  have hx := BB.exec
  have hb := BB.bytes
  have hr := BB.returns
  have hts := atoms_spec (ws := wsX5_stick) BB.pre
  have hown : s.vm.findClass RX5 = some m.cls := findClass_of_methodNamed BB.named
  have hlocks := BB.notSynchronized
  subst hsz
  have hD := hD0.self (sz := s.heap.size)
  generalize hAe : va_A (wSg a cI cJ F B K N I T) s.heap.size = A at hD ⊢
  have hA : ∀ q : Nat, s.heap.size ≤ q → A q := fun q h => by rw [← hAe]; exact Or.inr h
  have hS : va_S A s.heap s.heap [] := va_S.rf
  have hi5 : ∀ w ∈ u_ws RX5 TX5 9, w ∈ wsX5_stick := by decide +kernel
  have hl := lv_entry [.ref (a 0), .int x0, .int x1, .int x2] (n := 5) (Nat.le_of_ble_eq_true rfl)
  rw [lg_entry_eq]
  generalize (lg_sl [.ref (a 0), .int x0, .int x1, .int x2] ++ List.replicate (5 - (lg_sl [.ref (a 0), .int x0, .int x1, .int x2]).length) Slot.unset).toArray = ls at hl ⊢
  have hl : lv_has ls 5 [(0, .ref (a 0)), (1, .int x0), (2, .int x1), (3, .int x2)] := hl
  obtain ⟨H, hH⟩ : ∃ H, H = s.heap := ⟨_, rfl⟩
  obtain ⟨locs, hlocs⟩ : ∃ x : List Loc, x = [] := ⟨_, rfl⟩
  rw [← hH] at hP
  have hS : va_S A s.heap H locs := by rw [hH, hlocs]; exact hS
  suffices hgoal : ∀ (H : Heap) (locs : List Loc), va_P (dC, dI) vwCl (wSg a cI cJ F B K N I T) H → va_S A s.heap H locs → W p l e (headSpec wsX5_stick ({ frames := 3, cells := 0, slots := 0, locals := 67 } : Room)).room s m [.ref (a 0), .int x0, .int x1, .int x2].toArray below meth c H locs 0 0 (MQ below (va_Qi (S := Unit) (fun r_ _ => r_ = r0.1) (fun _ => q_E (dC, dI) vwCl (wSg a cI cJ F r0.2 K N I T) (q_ty cI cJ) A) A) [.ref (a 0), .int x0, .int x1, .int x2].toArray s 0 0 A) (F0 m 0 ls []) by
    have h9 := hgoal H locs hP hS
    rw [hH, hlocs] at h9
    exact h9
  clear hP hS hH H hlocs locs
  intro H locs hP hS
  unfold f_X5_stick at hf
  refine lv_aload_n hx hb dX5_stick_0 rfl (lv_at hl 0 rfl) ?_
  refine lv_iload_n hx hb dX5_stick_1 rfl (lv_at hl 1 rfl) ?_
  refine lv_iload_n hx hb dX5_stick_2 rfl (lv_at hl 2 rfl) ?_
  obtain ⟨x_1, hx_1, hf⟩ := Option.bind_eq_some_iff.mp hf
  refine q_vV (As := [.int x0, .int x1]) (rest := []) ⟨hx, hb, hml, hown, hts⟩ (c_X5_needDot l dC dI cI cJ a F B K N I T x0 x1 x_1 hx_1) (cwV 2 hts gX5_stick_X5_needDot rfl rfl rfl (by decide +kernel) ⟨Nat.le_of_ble_eq_true rfl, Nat.le_of_ble_eq_true rfl⟩) hK hn hP (ci := 5) rfl rfl rfl hl.1 rfl (Nat.le_of_ble_eq_true rfl) dX5_stick_3 ⟨Nat.zero_le _, Nat.zero_le _⟩ ?_
  refine lv_iload_n hx hb dX5_stick_6 rfl (lv_at hl 3 rfl) ?_
  refine lv_iconst (v := (-1)) hx hb dX5_stick_7 (by decide) ?_
  refine lv_icmp_lt (tgt := 16) hx hb dX5_stick_8 (by decide) (fun c_2 => ?_) (fun c_2 => ?_)
  · replace hf := (if_pos c_2).symm.trans hf
    cases hf
  · replace hf := (if_neg c_2).symm.trans hf
    refine lv_iload_n hx hb dX5_stick_11 rfl (lv_at hl 3 rfl) ?_
    refine lv_iconst (v := 1) hx hb dX5_stick_12 (by decide) ?_
    refine lv_icmp_le (tgt := 26) hx hb dX5_stick_13 (by decide) (fun c_3 => ?_) (fun c_3 => ?_)
    · replace hf := (if_pos c_3).symm.trans hf
      refine lv_aload_n hx hb dX5_stick_26 rfl (lv_at hl 0 rfl) ?_
      refine va_get (D := (dC, dI)) (ci := 5) (v := .ref (a 1)) (C := RX5) (T := TX5) (N := 9) hx hb hts hi5 hown hK hP 0 rfl rfl 0 (by decide) (hts (.fieldLink RX5 10 RX5 "board" "LFlapline$Board;") (by decide +kernel)) (fun _ h9 => h9) rfl dX5_stick_27 ?_
      refine lv_iload_n hx hb dX5_stick_30 rfl (lv_at hl 1 rfl) ?_
      refine lv_iload_n hx hb dX5_stick_31 rfl (lv_at hl 2 rfl) ?_
      refine q_rVN (As := [.int x0, .int x1]) (rest := []) ⟨hx, hb, hml, hown, hts⟩ (c_X0_faceOf l dC dI cI cJ (a 1) (a 2) (a 3) B x0 x1) ⟨va_cnB 2 hts gX5_stick_X0_faceOf_n113 rfl rfl rfl (nm_RX5_113 hn) (hts (.initialized RX0) (by decide +kernel)) (by decide +kernel) ⟨Nat.le_of_ble_eq_true rfl, Nat.le_of_ble_eq_true rfl⟩, hts (.instanceMethod yX0_faceOf) (by decide +kernel), hts (.selects RX0 yX0_faceOf yX0_faceOf) (by decide +kernel)⟩ hK hn (hP.sub (ws' := (wBd (a 1) (a 2) (a 3) cI B)) [1, 2, 3] rfl) (ci := 0) rfl rfl rfl hl.1 rfl (Nat.le_of_ble_eq_true rfl) dX5_stick_32 ⟨Nat.zero_le _, Nat.zero_le _⟩ ?_
      refine lv_istore (lv' := [(4, .int (f_X0_faceOf B x0 x1)), (0, .ref (a 0)), (1, .int x0), (2, .int x1), (3, .int x2)]) hx hb dX5_stick_35 hl (by decide) rfl (fun ls hl => ?_)
      refine lv_aload_n hx hb dX5_stick_37 rfl (lv_at hl 1 rfl) ?_
      refine va_get (D := (dC, dI)) (ci := 5) (v := .ref (a 1)) (C := RX5) (T := TX5) (N := 9) hx hb hts hi5 hown hK hP 0 rfl rfl 0 (by decide) (hts (.fieldLink RX5 10 RX5 "board" "LFlapline$Board;") (by decide +kernel)) (fun _ h9 => h9) rfl dX5_stick_38 ?_
      refine lv_iload_n hx hb dX5_stick_41 rfl (lv_at hl 2 rfl) ?_
      refine lv_iload_n hx hb dX5_stick_42 rfl (lv_at hl 3 rfl) ?_
      refine lv_iload_n hx hb dX5_stick_43 rfl (lv_at hl 4 rfl) ?_
      have hPc := hP.sub (ws' := (wBd (a 1) (a 2) (a 3) cI B)) [1, 2, 3] rfl
      have hDc := hD.sub (ws' := (wBd (a 1) (a 2) (a 3) cI B)) [1, 2, 3] (by decide) rfl
      have hFc := va_free (wc := (wBd (a 1) (a 2) (a 3) cI B)) hD hS hA [1, 2, 3] rfl
      refine va_callv (va_runVN (As := [.int x0, .int x1, .int x2]) (rest := []) ⟨hx, hb, hml, hown, hts⟩ (c_X0_fix l dC dI cI cJ (a 1) (a 2) (a 3) H.size B x0 x1 x2) ⟨va_cnB 3 hts gX5_stick_X0_fix_n116 rfl rfl rfl (nm_RX5_116 hn) (hts (.initialized RX0) (by decide +kernel)) (by decide +kernel) ⟨Nat.le_of_ble_eq_true rfl, Nat.le_of_ble_eq_true rfl⟩, hts (.instanceMethod yX0_fix) (by decide +kernel), hts (.selects RX0 yX0_fix yX0_fix) (by decide +kernel)⟩ ⟨q_Wblind, va_recv hK hPc (ci := 0) (q0 := 0) rfl rfl, q_Wpre hPc hK hn hDc⟩ rfl rfl hl.1 rfl (lv_room (Nat.le_of_ble_eq_true rfl)) dX5_stick_44 ⟨Nat.zero_le _, Nat.zero_le _⟩) hS (fun q _ h => hFc q h) hFc (fun u t H1 locs ht hvm hw hB hz1 hk1 hS => ?_)
      obtain ⟨hP1, hK1, hD1⟩ := hB
      rw [ht] at hP1
      obtain ⟨hP, hD⟩ := va_join (wr := [(a 0, .inr (5, [.ref (a 1), .ref (a 4), .ref (a 10), .ref (a 14), .ref (a 15), .int F.1, .int F.2.1, .int F.2.2.1, .int F.2.2.2])), ((a 4), .inr (1, [.ref (a 5), .ref (a 6), .ref (a 7), .ref (a 8), .ref (a 9), .int K.2.2.2.2.2.1, .int K.2.2.2.2.2.2])), ((a 5), .inl (cI, 7, .inl K.1)), ((a 6), .inl (cI, 7, .inl K.2.1)), ((a 7), .inl (cI, 8, .inl K.2.2.1)), ((a 8), .inl (cI, 8, .inl K.2.2.2.1)), ((a 9), .inl (cJ, 8, .inr (.inl K.2.2.2.2.1))), ((a 10), .inr (2, [.ref (a 11), .ref (a 12), .ref (a 13), .long N.2.2.2.1, .long N.2.2.2.2.1, .int N.2.2.2.2.2.1, .int N.2.2.2.2.2.2.1, .int N.2.2.2.2.2.2.2])), ((a 11), .inl (cI, 256, .inl N.1)), ((a 12), .inl (cI, 256, .inl N.2.1)), ((a 13), .inl (cI, 8, .inl N.2.2.1)), ((a 14), .inr (4, [.int I.1, .int I.2.1, .int I.2.2.1, .int I.2.2.2.1, .int I.2.2.2.2])), ((a 15), .inr (3, [.ref (a 16), .ref (a 17), .int T.2.2.1, .int T.2.2.2.1, .int T.2.2.2.2])), ((a 16), .inl (cI, 6, .inl T.1)), ((a 17), .inl (cI, 6, .inl T.2.1))]) (w1 := (wBd (a 1) (a 2) (a 3) cI (f_X0_fix B x0 x1 x2))) hP hD [1, 2, 3] [0, 4, 5, 6, 7, 8, 9, 10, 11, 12, 13, 14, 15, 16, 17] rfl rfl (by decide) (by decide) hk1 hFc hP1 hD1
      generalize H1 = H at hP hS ⊢
      replace hP := hP.sub (ws' := (wSg a cI cJ F (f_X0_fix B x0 x1 x2) K N I T)) [0, 15, 16, 17, 1, 2, 3, 4, 5, 6, 7, 8, 9, 10, 11, 12, 13, 14] rfl
      replace hD := hD.sub (ws' := (wSg a cI cJ F (f_X0_fix B x0 x1 x2) K N I T)) [0, 15, 16, 17, 1, 2, 3, 4, 5, 6, 7, 8, 9, 10, 11, 12, 13, 14] (by decide) rfl
      have hP : va_P (dC, dI) vwCl (wSg a cI cJ F (f_X0_fix B x0 x1 x2) K N I T) H := hP
      have hD : va_D A (wSg a cI cJ F (f_X0_fix B x0 x1 x2) K N I T) := hD
      refine lv_iload hx hb dX5_stick_47 (lv_at hl 0 rfl) ?_
      replace hf := Option.some.inj hf
      subst hf
      exact W.iret (v := (f_X0_faceOf B x0 x1)) hx hb hr (fun t ht hW => ⟨⟨(f_X0_faceOf B x0 x1), (), rfl, rfl, ⟨by rw [ht]; exact hP, va_K.moved hW.alike hK, hD⟩⟩, hS.F ht⟩) hS.2.2 dX5_stick_49
    · replace hf := (if_neg c_3).symm.trans hf
      cases hf
def f_X5_swap (B : q_Bd) (x0 : Int32) : Option (Int32 × q_Bd) := ((f_X5_needColumn B x0).bind fun x_1 => some ((f_X5_at 8 B.2.1 x0), (f_X0_renewColumn B x0)))
set_option maxHeartbeats 4000000 in
set_option maxRecDepth 100000 in
theorem c_X5_swap (l : Launch) (dC : Nat → ClassId) (dI : Nat → Nat → Nat) (cI cJ : ClassId) (a : Nat → Nat) (sz : Nat) (F : q_Fl) (B : q_Bd) (K : q_Bk) (N : q_Pl) (I : q_Wi) (T : q_Rt) (x0 : Int32) (r0 : Int32 × q_Bd) (hf : f_X5_swap B x0 = some r0) : Met l yX5_swap wsX5_swap ({ frames := 2, cells := 0, slots := 0, locals := 45 } : Room) (va_Pc [.ref (a 0), .int x0] (q_W (dC, dI) vwCl (wSg a cI cJ F B K N I T) (q_ty cI cJ) sz)) (va_Qi (S := Unit) (fun r_ _ => r_ = r0.1) (fun _ => q_E (dC, dI) vwCl (wSg a cI cJ F r0.2 K N I T) (q_ty cI cJ) (va_A (wSg a cI cJ F B K N I T) sz)) (va_A (wSg a cI cJ F B K N I T) sz)) 0 0 (va_A (wSg a cI cJ F B K N I T) sz) := by
  refine Met.ofW (cc := cX5_swap) (maxL := 3) (ret := (some .int)) (by decide) rfl ?_
  intro p e s m args below meth c s₁ BB hml hv
  obtain ⟨rfl, hsz, hP, hK, hn, hD0⟩ := hv
  have hx := BB.exec
  have hb := BB.bytes
  have hr := BB.returns
  have hts := atoms_spec (ws := wsX5_swap) BB.pre
  have hown : s.vm.findClass RX5 = some m.cls := findClass_of_methodNamed BB.named
  have hlocks := BB.notSynchronized
  subst hsz
  have hD := hD0.self (sz := s.heap.size)
  generalize hAe : va_A (wSg a cI cJ F B K N I T) s.heap.size = A at hD ⊢
  have hA : ∀ q : Nat, s.heap.size ≤ q → A q := fun q h => by rw [← hAe]; exact Or.inr h
  have hS : va_S A s.heap s.heap [] := va_S.rf
  have hi0 : ∀ w ∈ u_ws RX0 TX0 6, w ∈ wsX5_swap := by decide +kernel
  have hi5 : ∀ w ∈ u_ws RX5 TX5 9, w ∈ wsX5_swap := by decide +kernel
  have hl := lv_entry [.ref (a 0), .int x0] (n := 3) (Nat.le_of_ble_eq_true rfl)
  rw [lg_entry_eq]
  generalize (lg_sl [.ref (a 0), .int x0] ++ List.replicate (3 - (lg_sl [.ref (a 0), .int x0]).length) Slot.unset).toArray = ls at hl ⊢
  have hl : lv_has ls 3 [(0, .ref (a 0)), (1, .int x0)] := hl
  obtain ⟨H, hH⟩ : ∃ H, H = s.heap := ⟨_, rfl⟩
  obtain ⟨locs, hlocs⟩ : ∃ x : List Loc, x = [] := ⟨_, rfl⟩
  rw [← hH] at hP
  have hS : va_S A s.heap H locs := by rw [hH, hlocs]; exact hS
  suffices hgoal : ∀ (H : Heap) (locs : List Loc), va_P (dC, dI) vwCl (wSg a cI cJ F B K N I T) H → va_S A s.heap H locs → W p l e (headSpec wsX5_swap ({ frames := 2, cells := 0, slots := 0, locals := 45 } : Room)).room s m [.ref (a 0), .int x0].toArray below meth c H locs 0 0 (MQ below (va_Qi (S := Unit) (fun r_ _ => r_ = r0.1) (fun _ => q_E (dC, dI) vwCl (wSg a cI cJ F r0.2 K N I T) (q_ty cI cJ) A) A) [.ref (a 0), .int x0].toArray s 0 0 A) (F0 m 0 ls []) by
    have h9 := hgoal H locs hP hS
    rw [hH, hlocs] at h9
    exact h9
  clear hP hS hH H hlocs locs
  intro H locs hP hS
  unfold f_X5_swap at hf
  refine lv_aload_n hx hb dX5_swap_0 rfl (lv_at hl 0 rfl) ?_
  refine lv_iload_n hx hb dX5_swap_1 rfl (lv_at hl 1 rfl) ?_
  obtain ⟨x_1, hx_1, hf⟩ := Option.bind_eq_some_iff.mp hf
  refine q_vV (As := [.int x0]) (rest := []) ⟨hx, hb, hml, hown, hts⟩ (c_X5_needColumn l dC dI cI cJ a F B K N I T x0 x_1 hx_1) (cwV 1 hts gX5_swap_X5_needColumn rfl rfl rfl (by decide +kernel) ⟨Nat.le_of_ble_eq_true rfl, Nat.le_of_ble_eq_true rfl⟩) hK hn hP (ci := 5) rfl rfl rfl hl.1 rfl (Nat.le_of_ble_eq_true rfl) dX5_swap_2 ⟨Nat.zero_le _, Nat.zero_le _⟩ ?_
  refine lv_aload_n hx hb dX5_swap_5 rfl (lv_at hl 0 rfl) ?_
  refine va_get (D := (dC, dI)) (ci := 5) (v := .ref (a 1)) (C := RX5) (T := TX5) (N := 9) hx hb hts hi5 hown hK hP 0 rfl rfl 0 (by decide) (hts (.fieldLink RX5 10 RX5 "board" "LFlapline$Board;") (by decide +kernel)) (fun _ h9 => h9) rfl dX5_swap_6 ?_
  refine va_getN (D := (dC, dI)) (ci := 0) (v := .ref (a 3)) (C := RX0) (T := TX0) (N := 6) hx hb hts hi0 hown hK hP 1 rfl rfl 1 (by decide) (nf_RX5_123 hn) (fun _ h9 => h9) rfl dX5_swap_9 ?_
  refine lv_iload_n hx hb dX5_swap_12 rfl (lv_at hl 1 rfl) ?_
  refine q_rS (As := [.ref (a 3), .int x0]) (rest := []) ⟨hx, hb, hml, hown, hts⟩ (c_X5_at l dC dI cI cJ (a 3) 8 B.2.1 (by decide) x0) (va_cwS 2 hts gX5_swap_X5_at rfl rfl rfl (by decide +kernel) ⟨Nat.le_of_ble_eq_true rfl, Nat.le_of_ble_eq_true rfl⟩) hK hn (hP.sub (ws' := [((a 3), .inl (cI, 8, .inl B.2.1))]) [3] rfl) rfl hl.1 rfl (Nat.le_of_ble_eq_true rfl) dX5_swap_13 ⟨Nat.zero_le _, Nat.zero_le _⟩ ?_
  refine lv_istore_n (lv' := [(2, .int (f_X5_at 8 B.2.1 x0)), (0, .ref (a 0)), (1, .int x0)]) hx hb dX5_swap_16 rfl hl (by decide) rfl (fun ls hl => ?_)
  refine lv_aload_n hx hb dX5_swap_17 rfl (lv_at hl 1 rfl) ?_
  refine va_get (D := (dC, dI)) (ci := 5) (v := .ref (a 1)) (C := RX5) (T := TX5) (N := 9) hx hb hts hi5 hown hK hP 0 rfl rfl 0 (by decide) (hts (.fieldLink RX5 10 RX5 "board" "LFlapline$Board;") (by decide +kernel)) (fun _ h9 => h9) rfl dX5_swap_18 ?_
  refine lv_iload_n hx hb dX5_swap_21 rfl (lv_at hl 2 rfl) ?_
  have hPc := hP.sub (ws' := (wBd (a 1) (a 2) (a 3) cI B)) [1, 2, 3] rfl
  have hDc := hD.sub (ws' := (wBd (a 1) (a 2) (a 3) cI B)) [1, 2, 3] (by decide) rfl
  have hFc := va_free (wc := (wBd (a 1) (a 2) (a 3) cI B)) hD hS hA [1, 2, 3] rfl
  refine va_callv (va_runVN (As := [.int x0]) (rest := []) ⟨hx, hb, hml, hown, hts⟩ (c_X0_renewColumn l dC dI cI cJ (a 1) (a 2) (a 3) H.size B x0) ⟨va_cnB 1 hts gX5_swap_X0_renewColumn_n131 rfl rfl rfl (nm_RX5_131 hn) (hts (.initialized RX0) (by decide +kernel)) (by decide +kernel) ⟨Nat.le_of_ble_eq_true rfl, Nat.le_of_ble_eq_true rfl⟩, hts (.instanceMethod yX0_renewColumn) (by decide +kernel), hts (.selects RX0 yX0_renewColumn yX0_renewColumn) (by decide +kernel)⟩ ⟨q_Wblind, va_recv hK hPc (ci := 0) (q0 := 0) rfl rfl, q_Wpre hPc hK hn hDc⟩ rfl rfl hl.1 rfl (lv_room (Nat.le_of_ble_eq_true rfl)) dX5_swap_22 ⟨Nat.zero_le _, Nat.zero_le _⟩) hS (fun q _ h => hFc q h) hFc (fun u t H1 locs ht hvm hw hB hz1 hk1 hS => ?_)
  obtain ⟨hP1, hK1, hD1⟩ := hB
  rw [ht] at hP1
  obtain ⟨hP, hD⟩ := va_join (wr := [(a 0, .inr (5, [.ref (a 1), .ref (a 4), .ref (a 10), .ref (a 14), .ref (a 15), .int F.1, .int F.2.1, .int F.2.2.1, .int F.2.2.2])), ((a 4), .inr (1, [.ref (a 5), .ref (a 6), .ref (a 7), .ref (a 8), .ref (a 9), .int K.2.2.2.2.2.1, .int K.2.2.2.2.2.2])), ((a 5), .inl (cI, 7, .inl K.1)), ((a 6), .inl (cI, 7, .inl K.2.1)), ((a 7), .inl (cI, 8, .inl K.2.2.1)), ((a 8), .inl (cI, 8, .inl K.2.2.2.1)), ((a 9), .inl (cJ, 8, .inr (.inl K.2.2.2.2.1))), ((a 10), .inr (2, [.ref (a 11), .ref (a 12), .ref (a 13), .long N.2.2.2.1, .long N.2.2.2.2.1, .int N.2.2.2.2.2.1, .int N.2.2.2.2.2.2.1, .int N.2.2.2.2.2.2.2])), ((a 11), .inl (cI, 256, .inl N.1)), ((a 12), .inl (cI, 256, .inl N.2.1)), ((a 13), .inl (cI, 8, .inl N.2.2.1)), ((a 14), .inr (4, [.int I.1, .int I.2.1, .int I.2.2.1, .int I.2.2.2.1, .int I.2.2.2.2])), ((a 15), .inr (3, [.ref (a 16), .ref (a 17), .int T.2.2.1, .int T.2.2.2.1, .int T.2.2.2.2])), ((a 16), .inl (cI, 6, .inl T.1)), ((a 17), .inl (cI, 6, .inl T.2.1))]) (w1 := (wBd (a 1) (a 2) (a 3) cI (f_X0_renewColumn B x0))) hP hD [1, 2, 3] [0, 4, 5, 6, 7, 8, 9, 10, 11, 12, 13, 14, 15, 16, 17] rfl rfl (by decide) (by decide) hk1 hFc hP1 hD1
  generalize H1 = H at hP hS ⊢
  replace hP := hP.sub (ws' := (wSg a cI cJ F (f_X0_renewColumn B x0) K N I T)) [0, 15, 16, 17, 1, 2, 3, 4, 5, 6, 7, 8, 9, 10, 11, 12, 13, 14] rfl
  replace hD := hD.sub (ws' := (wSg a cI cJ F (f_X0_renewColumn B x0) K N I T)) [0, 15, 16, 17, 1, 2, 3, 4, 5, 6, 7, 8, 9, 10, 11, 12, 13, 14] (by decide) rfl
  have hP : va_P (dC, dI) vwCl (wSg a cI cJ F (f_X0_renewColumn B x0) K N I T) H := hP
  have hD : va_D A (wSg a cI cJ F (f_X0_renewColumn B x0) K N I T) := hD
  refine lv_iload_n hx hb dX5_swap_25 rfl (lv_at hl 0 rfl) ?_
  replace hf := Option.some.inj hf
  subst hf
  exact W.iret (v := (f_X5_at 8 B.2.1 x0)) hx hb hr (fun t ht hW => ⟨⟨(f_X5_at 8 B.2.1 x0), (), rfl, rfl, ⟨by rw [ht]; exact hP, va_K.moved hW.alike hK, hD⟩⟩, hS.F ht⟩) hS.2.2 dX5_swap_26
def fl_X5_forbidPlacesOf_2 (x0 : Int32) (B : q_Bd) (K : q_Bk) : Nat → Int32 → q_Pl → Option (Int32 × q_Pl)
  | 0, _, _ => none
  | nn + 1, i2_2, N_2 => (if (f_X5_lastOffset B K x0) < i2_2 then some (i2_2, N_2) else ((f_X2_forbid N_2 (f_X1_placed K x0 i2_2)).bind fun x_2 => fl_X5_forbidPlacesOf_2 x0 B K nn (i2_2 + 1) x_2))
def f_X5_forbidPlacesOf (B : q_Bd) (K : q_Bk) (N : q_Pl) (x0 : Int32) : Option (q_Pl) := ((fl_X5_forbidPlacesOf_2 x0 B K 1000 0 N).bind fun z_3 => some z_3.2)
set_option maxHeartbeats 4000000 in
set_option maxRecDepth 100000 in
theorem c_X5_forbidPlacesOf (l : Launch) (dC : Nat → ClassId) (dI : Nat → Nat → Nat) (cI cJ : ClassId) (a : Nat → Nat) (sz : Nat) (F : q_Fl) (B : q_Bd) (K : q_Bk) (N : q_Pl) (I : q_Wi) (T : q_Rt) (x0 : Int32) (r0 : q_Pl) (hf : f_X5_forbidPlacesOf B K N x0 = some r0) : Met l yX5_forbidPlacesOf wsX5_forbidPlacesOf ({ frames := 2, cells := 0, slots := 0, locals := 47 } : Room) (va_Pc [.ref (a 0), .int x0] (q_W (dC, dI) vwCl (wSg a cI cJ F B K N I T) (q_ty cI cJ) sz)) (va_Qv (S := Unit) (fun _ => True) (fun _ => q_E (dC, dI) vwCl (wSg a cI cJ F B K r0 I T) (q_ty cI cJ) (va_A (wSg a cI cJ F B K N I T) sz)) (va_A (wSg a cI cJ F B K N I T) sz)) 0 0 (va_A (wSg a cI cJ F B K N I T) sz) := by
  refine Met.ofW (cc := cX5_forbidPlacesOf) (maxL := 3) (ret := none) (by decide) rfl ?_
  intro p e s m args below meth c s₁ BB hml hv
  obtain ⟨rfl, hsz, hP, hK, hn, hD0⟩ := hv
  have hx := BB.exec
  have hb := BB.bytes
  have hr := BB.returns
  have hts := atoms_spec (ws := wsX5_forbidPlacesOf) BB.pre
  have hown : s.vm.findClass RX5 = some m.cls := findClass_of_methodNamed BB.named
  have hlocks := BB.notSynchronized
  subst hsz
  have hD := hD0.self (sz := s.heap.size)
  generalize hAe : va_A (wSg a cI cJ F B K N I T) s.heap.size = A at hD ⊢
  have hA : ∀ q : Nat, s.heap.size ≤ q → A q := fun q h => by rw [← hAe]; exact Or.inr h
  have hS : va_S A s.heap s.heap [] := va_S.rf
  have hi5 : ∀ w ∈ u_ws RX5 TX5 9, w ∈ wsX5_forbidPlacesOf := by decide +kernel
  have hl := lv_entry [.ref (a 0), .int x0] (n := 3) (Nat.le_of_ble_eq_true rfl)
  rw [lg_entry_eq]
  generalize (lg_sl [.ref (a 0), .int x0] ++ List.replicate (3 - (lg_sl [.ref (a 0), .int x0]).length) Slot.unset).toArray = ls at hl ⊢
  have hl : lv_has ls 3 [(0, .ref (a 0)), (1, .int x0)] := hl
  obtain ⟨H, hH⟩ : ∃ H, H = s.heap := ⟨_, rfl⟩
  obtain ⟨locs, hlocs⟩ : ∃ x : List Loc, x = [] := ⟨_, rfl⟩
  rw [← hH] at hP
  have hS : va_S A s.heap H locs := by rw [hH, hlocs]; exact hS
  suffices hgoal : ∀ (H : Heap) (locs : List Loc), va_P (dC, dI) vwCl (wSg a cI cJ F B K N I T) H → va_S A s.heap H locs → W p l e (headSpec wsX5_forbidPlacesOf ({ frames := 2, cells := 0, slots := 0, locals := 47 } : Room)).room s m [.ref (a 0), .int x0].toArray below meth c H locs 0 0 (MQ below (va_Qv (S := Unit) (fun _ => True) (fun _ => q_E (dC, dI) vwCl (wSg a cI cJ F B K r0 I T) (q_ty cI cJ) A) A) [.ref (a 0), .int x0].toArray s 0 0 A) (F0 m 0 ls []) by
    have h9 := hgoal H locs hP hS
    rw [hH, hlocs] at h9
    exact h9
  clear hP hS hH H hlocs locs
  intro H locs hP hS
  unfold f_X5_forbidPlacesOf at hf
  refine lv_iconst (v := 0) hx hb dX5_forbidPlacesOf_0 (by decide) ?_
  refine lv_istore_n (lv' := [(2, .int 0), (0, .ref (a 0)), (1, .int x0)]) hx hb dX5_forbidPlacesOf_1 rfl hl (by decide) rfl (fun ls hl => ?_)
  have L_2 : ∀ (nn : Nat) (i2_2 : Int32) (N_2 : q_Pl) (H : Heap) (locs : List Loc) (ls : Array Slot) (z_2 : (Int32 × q_Pl)), lv_has ls 3 [(2, .int i2_2), (0, .ref (a 0)), (1, .int x0)] → va_P (dC, dI) vwCl (wSg a cI cJ F B K N_2 I T) H → va_D A (wSg a cI cJ F B K N_2 I T) → va_S A s.heap H locs → fl_X5_forbidPlacesOf_2 x0 B K nn i2_2 N_2 = some z_2 → (∀ (H : Heap) (locs : List Loc) (ls : Array Slot), lv_has ls 3 [(2, .int z_2.1), (0, .ref (a 0)), (1, .int x0)] → va_P (dC, dI) vwCl (wSg a cI cJ F B K z_2.2 I T) H → va_D A (wSg a cI cJ F B K z_2.2 I T) → va_S A s.heap H locs → W p l e (headSpec wsX5_forbidPlacesOf ({ frames := 2, cells := 0, slots := 0, locals := 47 } : Room)).room s m [.ref (a 0), .int x0].toArray below meth c H locs 0 0 (MQ below (va_Qv (S := Unit) (fun _ => True) (fun _ => q_E (dC, dI) vwCl (wSg a cI cJ F B K r0 I T) (q_ty cI cJ) A) A) [.ref (a 0), .int x0].toArray s 0 0 A) (F0 m 33 ls [])) → W p l e (headSpec wsX5_forbidPlacesOf ({ frames := 2, cells := 0, slots := 0, locals := 47 } : Room)).room s m [.ref (a 0), .int x0].toArray below meth c H locs 0 0 (MQ below (va_Qv (S := Unit) (fun _ => True) (fun _ => q_E (dC, dI) vwCl (wSg a cI cJ F B K r0 I T) (q_ty cI cJ) A) A) [.ref (a 0), .int x0].toArray s 0 0 A) (F0 m 2 ls []) := by
    intro nn
    induction nn with
    | zero =>
      intro i2_2 N_2 H locs ls z_2 hl hP hD hS hf hex_2
      rw [fl_X5_forbidPlacesOf_2] at hf
      cases hf
    | succ nn ih =>
      intro i2_2 N_2 H locs ls z_2 hl hP hD hS hf hex_2
      rw [fl_X5_forbidPlacesOf_2] at hf
      refine lv_iload_n hx hb dX5_forbidPlacesOf_2 rfl (lv_at hl 0 rfl) ?_
      refine lv_aload_n hx hb dX5_forbidPlacesOf_3 rfl (lv_at hl 1 rfl) ?_
      refine lv_iload_n hx hb dX5_forbidPlacesOf_4 rfl (lv_at hl 2 rfl) ?_
      refine q_rV (As := [.int x0]) (rest := [.int i2_2]) ⟨hx, hb, hml, hown, hts⟩ (c_X5_lastOffset l dC dI cI cJ a F B K N_2 I T x0) (cwV 1 hts gX5_forbidPlacesOf_X5_lastOffset rfl rfl rfl (by decide +kernel) ⟨Nat.le_of_ble_eq_true rfl, Nat.le_of_ble_eq_true rfl⟩) hK hn hP (ci := 5) rfl rfl rfl hl.1 rfl (Nat.le_of_ble_eq_true rfl) dX5_forbidPlacesOf_5 ⟨Nat.zero_le _, Nat.zero_le _⟩ ?_
      refine lv_icmp_gt (tgt := 33) hx hb dX5_forbidPlacesOf_8 (by decide) (fun c_1 => ?_) (fun c_1 => ?_)
      · replace hf := (if_pos c_1).symm.trans hf
        replace hf := Option.some.inj hf
        subst hf
        exact hex_2 H locs ls (lv_sub hl [0, 1, 2] rfl) hP hD hS
      · replace hf := (if_neg c_1).symm.trans hf
        refine lv_aload_n hx hb dX5_forbidPlacesOf_11 rfl (lv_at hl 1 rfl) ?_
        refine va_get (D := (dC, dI)) (ci := 5) (v := .ref (a 10)) (C := RX5) (T := TX5) (N := 9) hx hb hts hi5 hown hK hP 0 rfl rfl 2 (by decide) (hts (.fieldLink RX5 26 RX5 "planner" "LFlapline$Planner;") (by decide +kernel)) (fun _ h9 => h9) rfl dX5_forbidPlacesOf_12 ?_
        refine lv_aload_n hx hb dX5_forbidPlacesOf_15 rfl (lv_at hl 1 rfl) ?_
        refine va_get (D := (dC, dI)) (ci := 5) (v := .ref (a 4)) (C := RX5) (T := TX5) (N := 9) hx hb hts hi5 hown hK hP 0 rfl rfl 1 (by decide) (hts (.fieldLink RX5 19 RX5 "book" "LFlapline$Book;") (by decide +kernel)) (fun _ h9 => h9) rfl dX5_forbidPlacesOf_16 ?_
        refine lv_iload_n hx hb dX5_forbidPlacesOf_19 rfl (lv_at hl 2 rfl) ?_
        refine lv_iload_n hx hb dX5_forbidPlacesOf_20 rfl (lv_at hl 0 rfl) ?_
        refine q_rVN (As := [.int x0, .int i2_2]) (rest := [.ref (a 10)]) ⟨hx, hb, hml, hown, hts⟩ (c_X1_placed l dC dI cI cJ (a 4) (a 5) (a 6) (a 7) (a 8) (a 9) K x0 i2_2) ⟨va_cnB 2 hts gX5_forbidPlacesOf_X1_placed_n250 rfl rfl rfl (nm_RX5_250 hn) (hts (.initialized RX1) (by decide +kernel)) (by decide +kernel) ⟨Nat.le_of_ble_eq_true rfl, Nat.le_of_ble_eq_true rfl⟩, hts (.instanceMethod yX1_placed) (by decide +kernel), hts (.selects RX1 yX1_placed yX1_placed) (by decide +kernel)⟩ hK hn (hP.sub (ws' := (wBk (a 4) (a 5) (a 6) (a 7) (a 8) (a 9) cI cJ K)) [4, 5, 6, 7, 8, 9] rfl) (ci := 1) rfl rfl rfl hl.1 rfl (Nat.le_of_ble_eq_true rfl) dX5_forbidPlacesOf_21 ⟨Nat.zero_le _, Nat.zero_le _⟩ ?_
        obtain ⟨x_2, hx_2, hf⟩ := Option.bind_eq_some_iff.mp hf
        have hPc := hP.sub (ws' := (wPl (a 10) (a 11) (a 12) (a 13) cI N_2)) [10, 11, 12, 13] rfl
        have hDc := hD.sub (ws' := (wPl (a 10) (a 11) (a 12) (a 13) cI N_2)) [10, 11, 12, 13] (by decide) rfl
        have hFc := va_free (wc := (wPl (a 10) (a 11) (a 12) (a 13) cI N_2)) hD hS hA [10, 11, 12, 13] rfl
        refine va_callv (va_runVN (As := [.long (f_X1_placed K x0 i2_2)]) (rest := []) ⟨hx, hb, hml, hown, hts⟩ (c_X2_forbid l dC dI cI cJ (a 10) (a 11) (a 12) (a 13) H.size N_2 (f_X1_placed K x0 i2_2) x_2 hx_2) ⟨va_cnB 1 hts gX5_forbidPlacesOf_X2_forbid_n374 rfl rfl rfl (nm_RX5_374 hn) (hts (.initialized RX2) (by decide +kernel)) (by decide +kernel) ⟨Nat.le_of_ble_eq_true rfl, Nat.le_of_ble_eq_true rfl⟩, hts (.instanceMethod yX2_forbid) (by decide +kernel), hts (.selects RX2 yX2_forbid yX2_forbid) (by decide +kernel)⟩ ⟨q_Wblind, va_recv hK hPc (ci := 2) (q0 := 0) rfl rfl, q_Wpre hPc hK hn hDc⟩ rfl rfl hl.1 rfl (lv_room (Nat.le_of_ble_eq_true rfl)) dX5_forbidPlacesOf_24 ⟨Nat.zero_le _, Nat.zero_le _⟩) hS (fun q _ h => hFc q h) hFc (fun u t H1 locs ht hvm hw hB hz1 hk1 hS => ?_)
        obtain ⟨hP1, hK1, hD1⟩ := hB
        rw [ht] at hP1
        obtain ⟨hP, hD⟩ := va_join (wr := [(a 0, .inr (5, [.ref (a 1), .ref (a 4), .ref (a 10), .ref (a 14), .ref (a 15), .int F.1, .int F.2.1, .int F.2.2.1, .int F.2.2.2])), ((a 1), .inr (0, [.ref (a 2), .ref (a 3), .int B.2.2.1, .long B.2.2.2.1, .long B.2.2.2.2.1, .long B.2.2.2.2.2])), ((a 2), .inl (cI, 40, .inl B.1)), ((a 3), .inl (cI, 8, .inl B.2.1)), ((a 4), .inr (1, [.ref (a 5), .ref (a 6), .ref (a 7), .ref (a 8), .ref (a 9), .int K.2.2.2.2.2.1, .int K.2.2.2.2.2.2])), ((a 5), .inl (cI, 7, .inl K.1)), ((a 6), .inl (cI, 7, .inl K.2.1)), ((a 7), .inl (cI, 8, .inl K.2.2.1)), ((a 8), .inl (cI, 8, .inl K.2.2.2.1)), ((a 9), .inl (cJ, 8, .inr (.inl K.2.2.2.2.1))), ((a 14), .inr (4, [.int I.1, .int I.2.1, .int I.2.2.1, .int I.2.2.2.1, .int I.2.2.2.2])), ((a 15), .inr (3, [.ref (a 16), .ref (a 17), .int T.2.2.1, .int T.2.2.2.1, .int T.2.2.2.2])), ((a 16), .inl (cI, 6, .inl T.1)), ((a 17), .inl (cI, 6, .inl T.2.1))]) (w1 := (wPl (a 10) (a 11) (a 12) (a 13) cI x_2)) hP hD [10, 11, 12, 13] [0, 1, 2, 3, 4, 5, 6, 7, 8, 9, 14, 15, 16, 17] rfl rfl (by decide) (by decide) hk1 hFc hP1 hD1
        generalize H1 = H at hP hS ⊢
        replace hP := hP.sub (ws' := (wSg a cI cJ F B K x_2 I T)) [0, 1, 2, 3, 4, 5, 6, 7, 8, 9, 14, 15, 16, 17, 10, 11, 12, 13] rfl
        replace hD := hD.sub (ws' := (wSg a cI cJ F B K x_2 I T)) [0, 1, 2, 3, 4, 5, 6, 7, 8, 9, 14, 15, 16, 17, 10, 11, 12, 13] (by decide) rfl
        have hP : va_P (dC, dI) vwCl (wSg a cI cJ F B K x_2 I T) H := hP
        have hD : va_D A (wSg a cI cJ F B K x_2 I T) := hD
        refine lv_iinc (v := i2_2 + 1) (lv' := [(2, .int (i2_2 + 1)), (0, .ref (a 0)), (1, .int x0)]) hx hb dX5_forbidPlacesOf_27 hl (k := 0) rfl rfl (by decide) rfl (fun ls hl => ?_)
        refine lv_goto (tgt := 2) hx hb dX5_forbidPlacesOf_30 (by decide) ?_
        exact ih (i2_2 + 1) x_2 H locs ls _ (lv_sub hl [0, 1, 2] rfl) hP hD hS hf hex_2
  obtain ⟨z_3, hz_3, hf⟩ := Option.bind_eq_some_iff.mp hf
  refine L_2 1000 0 N H locs ls z_3 (lv_sub hl [0, 1, 2] rfl) hP hD hS hz_3 (fun H locs ls hl hP hD hS => ?_)
  replace hf := Option.some.inj hf
  subst hf
  exact W.vret hx hb hr (fun t ht hW => ⟨⟨(), rfl, trivial, ⟨by rw [ht]; exact hP, va_K.moved hW.alike hK, hD⟩⟩, hS.F ht⟩) hS.2.2 dX5_forbidPlacesOf_33
def fl_X5_makePlan_45 (x0 : Int32) (B : q_Bd) (K : q_Bk) : Nat → Int32 → q_Pl → Option (Int32 × q_Pl)
  | 0, _, _ => none
  | nn + 1, i3_45, N_45 => (if K.2.2.2.2.2.2 ≤ i3_45 then some (i3_45, N_45) else (if i3_45 = x0 then fl_X5_makePlan_45 x0 B K nn (i3_45 + 1) N_45 else ((f_X5_says B K B.2.2.2.1 i3_45).bind fun x_6 => (if x_6 = 0 then ((f_X5_forbidPlacesOf B K N_45 i3_45).bind fun x_8 => fl_X5_makePlan_45 x0 B K nn (i3_45 + 1) x_8) else fl_X5_makePlan_45 x0 B K nn (i3_45 + 1) N_45))))
def f_X5_makePlan (F : q_Fl) (B : q_Bd) (K : q_Bk) (N : q_Pl) (x0 : Int32) : Option (q_Pl) := ((f_X5_bestOffset B K x0).bind fun x_1 => (if x_1 = (-1) then some (f_X2_giveUp N) else ((f_X2_begin N B.2.2.2.1 (f_X5_goalAt B K x0 x_1) F.1).bind fun x_3 => ((fl_X5_makePlan_45 x0 B K 1000 0 x_3).bind fun z_9 => ((f_X2_choose z_9.2).bind fun x_10 => some x_10)))))
set_option maxHeartbeats 4000000 in
set_option maxRecDepth 100000 in
theorem c_X5_makePlan (l : Launch) (dC : Nat → ClassId) (dI : Nat → Nat → Nat) (cI cJ : ClassId) (a : Nat → Nat) (sz : Nat) (F : q_Fl) (B : q_Bd) (K : q_Bk) (N : q_Pl) (I : q_Wi) (T : q_Rt) (x0 : Int32) (r0 : q_Pl) (hf : f_X5_makePlan F B K N x0 = some r0) : Met l yX5_makePlan wsX5_makePlan ({ frames := 3, cells := 0, slots := 0, locals := 71 } : Room) (va_Pc [.ref (a 0), .int x0] (q_W (dC, dI) vwCl (wSg a cI cJ F B K N I T) (q_ty cI cJ) sz)) (va_Qv (S := Unit) (fun _ => True) (fun _ => q_E (dC, dI) vwCl (wSg a cI cJ F B K r0 I T) (q_ty cI cJ) (va_A (wSg a cI cJ F B K N I T) sz)) (va_A (wSg a cI cJ F B K N I T) sz)) 0 0 (va_A (wSg a cI cJ F B K N I T) sz) := by
  refine Met.ofW (cc := cX5_makePlan) (maxL := 4) (ret := none) (by decide) rfl ?_
  intro p e s m args below meth c s₁ BB hml hv
  obtain ⟨rfl, hsz, hP, hK, hn, hD0⟩ := hv
  have hx := BB.exec
  have hb := BB.bytes
  have hr := BB.returns
  have hts := atoms_spec (ws := wsX5_makePlan) BB.pre
  have hown : s.vm.findClass RX5 = some m.cls := findClass_of_methodNamed BB.named
  have hlocks := BB.notSynchronized
  subst hsz
  have hD := hD0.self (sz := s.heap.size)
  generalize hAe : va_A (wSg a cI cJ F B K N I T) s.heap.size = A at hD ⊢
  have hA : ∀ q : Nat, s.heap.size ≤ q → A q := fun q h => by rw [← hAe]; exact Or.inr h
  have hS : va_S A s.heap s.heap [] := va_S.rf
  have hi0 : ∀ w ∈ u_ws RX0 TX0 6, w ∈ wsX5_makePlan := by decide +kernel
  have hi1 : ∀ w ∈ u_ws RX1 TX1 7, w ∈ wsX5_makePlan := by decide +kernel
  have hi5 : ∀ w ∈ u_ws RX5 TX5 9, w ∈ wsX5_makePlan := by decide +kernel
  have hl := lv_entry [.ref (a 0), .int x0] (n := 4) (Nat.le_of_ble_eq_true rfl)
  rw [lg_entry_eq]
  generalize (lg_sl [.ref (a 0), .int x0] ++ List.replicate (4 - (lg_sl [.ref (a 0), .int x0]).length) Slot.unset).toArray = ls at hl ⊢
  have hl : lv_has ls 4 [(0, .ref (a 0)), (1, .int x0)] := hl
  obtain ⟨H, hH⟩ : ∃ H, H = s.heap := ⟨_, rfl⟩
  obtain ⟨locs, hlocs⟩ : ∃ x : List Loc, x = [] := ⟨_, rfl⟩
  rw [← hH] at hP
  have hS : va_S A s.heap H locs := by rw [hH, hlocs]; exact hS
  suffices hgoal : ∀ (H : Heap) (locs : List Loc), va_P (dC, dI) vwCl (wSg a cI cJ F B K N I T) H → va_S A s.heap H locs → W p l e (headSpec wsX5_makePlan ({ frames := 3, cells := 0, slots := 0, locals := 71 } : Room)).room s m [.ref (a 0), .int x0].toArray below meth c H locs 0 0 (MQ below (va_Qv (S := Unit) (fun _ => True) (fun _ => q_E (dC, dI) vwCl (wSg a cI cJ F B K r0 I T) (q_ty cI cJ) A) A) [.ref (a 0), .int x0].toArray s 0 0 A) (F0 m 0 ls []) by
    have h9 := hgoal H locs hP hS
    rw [hH, hlocs] at h9
    exact h9
  clear hP hS hH H hlocs locs
  intro H locs hP hS
  unfold f_X5_makePlan at hf
  refine lv_aload_n hx hb dX5_makePlan_0 rfl (lv_at hl 0 rfl) ?_
  refine lv_iload_n hx hb dX5_makePlan_1 rfl (lv_at hl 1 rfl) ?_
  obtain ⟨x_1, hx_1, hf⟩ := Option.bind_eq_some_iff.mp hf
  refine q_rV (As := [.int x0]) (rest := []) ⟨hx, hb, hml, hown, hts⟩ (c_X5_bestOffset l dC dI cI cJ a F B K N I T x0 x_1 hx_1) (cwV 1 hts gX5_makePlan_X5_bestOffset rfl rfl rfl (by decide +kernel) ⟨Nat.le_of_ble_eq_true rfl, Nat.le_of_ble_eq_true rfl⟩) hK hn hP (ci := 5) rfl rfl rfl hl.1 rfl (Nat.le_of_ble_eq_true rfl) dX5_makePlan_2 ⟨Nat.zero_le _, Nat.zero_le _⟩ ?_
  refine lv_istore_n (lv' := [(2, .int x_1), (0, .ref (a 0)), (1, .int x0)]) hx hb dX5_makePlan_5 rfl hl (by decide) rfl (fun ls hl => ?_)
  refine lv_iload_n hx hb dX5_makePlan_6 rfl (lv_at hl 0 rfl) ?_
  refine lv_iconst (v := (-1)) hx hb dX5_makePlan_7 (by decide) ?_
  refine lv_icmp_ne (tgt := 19) hx hb dX5_makePlan_8 (by decide) (fun c_2 => ?_) (fun c_2 => ?_)
  · replace hf := (if_neg c_2).symm.trans hf
    refine lv_aload_n hx hb dX5_makePlan_19 rfl (lv_at hl 1 rfl) ?_
    refine va_get (D := (dC, dI)) (ci := 5) (v := .ref (a 10)) (C := RX5) (T := TX5) (N := 9) hx hb hts hi5 hown hK hP 0 rfl rfl 2 (by decide) (hts (.fieldLink RX5 26 RX5 "planner" "LFlapline$Planner;") (by decide +kernel)) (fun _ h9 => h9) rfl dX5_makePlan_20 ?_
    refine lv_aload_n hx hb dX5_makePlan_23 rfl (lv_at hl 1 rfl) ?_
    refine va_get (D := (dC, dI)) (ci := 5) (v := .ref (a 1)) (C := RX5) (T := TX5) (N := 9) hx hb hts hi5 hown hK hP 0 rfl rfl 0 (by decide) (hts (.fieldLink RX5 10 RX5 "board" "LFlapline$Board;") (by decide +kernel)) (fun _ h9 => h9) rfl dX5_makePlan_24 ?_
    refine va_getN (D := (dC, dI)) (ci := 0) (v := .long B.2.2.2.1) (C := RX0) (T := TX0) (N := 6) hx hb hts hi0 hown hK hP 1 rfl rfl 3 (by decide) (nf_RX5_287 hn) (fun _ h9 => h9) rfl dX5_makePlan_27 ?_
    refine lv_aload_n hx hb dX5_makePlan_30 rfl (lv_at hl 1 rfl) ?_
    refine lv_iload_n hx hb dX5_makePlan_31 rfl (lv_at hl 2 rfl) ?_
    refine lv_iload_n hx hb dX5_makePlan_32 rfl (lv_at hl 0 rfl) ?_
    refine q_rV (As := [.int x0, .int x_1]) (rest := [.long B.2.2.2.1, .ref (a 10)]) ⟨hx, hb, hml, hown, hts⟩ (c_X5_goalAt l dC dI cI cJ a F B K N I T x0 x_1) (cwV 2 hts gX5_makePlan_X5_goalAt rfl rfl rfl (by decide +kernel) ⟨Nat.le_of_ble_eq_true rfl, Nat.le_of_ble_eq_true rfl⟩) hK hn hP (ci := 5) rfl rfl rfl hl.1 rfl (Nat.le_of_ble_eq_true rfl) dX5_makePlan_33 ⟨Nat.zero_le _, Nat.zero_le _⟩ ?_
    refine lv_aload_n hx hb dX5_makePlan_36 rfl (lv_at hl 1 rfl) ?_
    refine va_get (D := (dC, dI)) (ci := 5) (v := .int F.1) (C := RX5) (T := TX5) (N := 9) hx hb hts hi5 hown hK hP 0 rfl rfl 5 (by decide) (hts (.fieldLink RX5 44 RX5 "power" "I") (by decide +kernel)) (fun _ h9 => h9) rfl dX5_makePlan_37 ?_
    obtain ⟨x_3, hx_3, hf⟩ := Option.bind_eq_some_iff.mp hf
    have hPc := hP.sub (ws' := (wPl (a 10) (a 11) (a 12) (a 13) cI N)) [10, 11, 12, 13] rfl
    have hDc := hD.sub (ws' := (wPl (a 10) (a 11) (a 12) (a 13) cI N)) [10, 11, 12, 13] (by decide) rfl
    have hFc := va_free (wc := (wPl (a 10) (a 11) (a 12) (a 13) cI N)) hD hS hA [10, 11, 12, 13] rfl
    refine va_callv (va_runVN (As := [.long B.2.2.2.1, .long (f_X5_goalAt B K x0 x_1), .int F.1]) (rest := []) ⟨hx, hb, hml, hown, hts⟩ (c_X2_begin l dC dI cI cJ (a 10) (a 11) (a 12) (a 13) H.size N B.2.2.2.1 (f_X5_goalAt B K x0 x_1) F.1 x_3 hx_3) ⟨va_cnB 3 hts gX5_makePlan_X2_begin_n365 rfl rfl rfl (nm_RX5_365 hn) (hts (.initialized RX2) (by decide +kernel)) (by decide +kernel) ⟨Nat.le_of_ble_eq_true rfl, Nat.le_of_ble_eq_true rfl⟩, hts (.instanceMethod yX2_begin) (by decide +kernel), hts (.selects RX2 yX2_begin yX2_begin) (by decide +kernel)⟩ ⟨q_Wblind, va_recv hK hPc (ci := 2) (q0 := 0) rfl rfl, q_Wpre hPc hK hn hDc⟩ rfl rfl hl.1 rfl (lv_room (Nat.le_of_ble_eq_true rfl)) dX5_makePlan_40 ⟨Nat.zero_le _, Nat.zero_le _⟩) hS (fun q _ h => hFc q h) hFc (fun u t H1 locs ht hvm hw hB hz1 hk1 hS => ?_)
    obtain ⟨hP1, hK1, hD1⟩ := hB
    rw [ht] at hP1
    obtain ⟨hP, hD⟩ := va_join (wr := [(a 0, .inr (5, [.ref (a 1), .ref (a 4), .ref (a 10), .ref (a 14), .ref (a 15), .int F.1, .int F.2.1, .int F.2.2.1, .int F.2.2.2])), ((a 1), .inr (0, [.ref (a 2), .ref (a 3), .int B.2.2.1, .long B.2.2.2.1, .long B.2.2.2.2.1, .long B.2.2.2.2.2])), ((a 2), .inl (cI, 40, .inl B.1)), ((a 3), .inl (cI, 8, .inl B.2.1)), ((a 4), .inr (1, [.ref (a 5), .ref (a 6), .ref (a 7), .ref (a 8), .ref (a 9), .int K.2.2.2.2.2.1, .int K.2.2.2.2.2.2])), ((a 5), .inl (cI, 7, .inl K.1)), ((a 6), .inl (cI, 7, .inl K.2.1)), ((a 7), .inl (cI, 8, .inl K.2.2.1)), ((a 8), .inl (cI, 8, .inl K.2.2.2.1)), ((a 9), .inl (cJ, 8, .inr (.inl K.2.2.2.2.1))), ((a 14), .inr (4, [.int I.1, .int I.2.1, .int I.2.2.1, .int I.2.2.2.1, .int I.2.2.2.2])), ((a 15), .inr (3, [.ref (a 16), .ref (a 17), .int T.2.2.1, .int T.2.2.2.1, .int T.2.2.2.2])), ((a 16), .inl (cI, 6, .inl T.1)), ((a 17), .inl (cI, 6, .inl T.2.1))]) (w1 := (wPl (a 10) (a 11) (a 12) (a 13) cI x_3)) hP hD [10, 11, 12, 13] [0, 1, 2, 3, 4, 5, 6, 7, 8, 9, 14, 15, 16, 17] rfl rfl (by decide) (by decide) hk1 hFc hP1 hD1
    generalize H1 = H at hP hS ⊢
    replace hP := hP.sub (ws' := (wSg a cI cJ F B K x_3 I T)) [0, 1, 2, 3, 4, 5, 6, 7, 8, 9, 14, 15, 16, 17, 10, 11, 12, 13] rfl
    replace hD := hD.sub (ws' := (wSg a cI cJ F B K x_3 I T)) [0, 1, 2, 3, 4, 5, 6, 7, 8, 9, 14, 15, 16, 17, 10, 11, 12, 13] (by decide) rfl
    have hP : va_P (dC, dI) vwCl (wSg a cI cJ F B K x_3 I T) H := hP
    have hD : va_D A (wSg a cI cJ F B K x_3 I T) := hD
    refine lv_iconst (v := 0) hx hb dX5_makePlan_43 (by decide) ?_
    refine lv_istore_n (lv' := [(3, .int 0), (2, .int x_1), (0, .ref (a 0)), (1, .int x0)]) hx hb dX5_makePlan_44 rfl hl (by decide) rfl (fun ls hl => ?_)
    have L_45 : ∀ (nn : Nat) (i3_45 : Int32) (N_45 : q_Pl) (H : Heap) (locs : List Loc) (ls : Array Slot) (z_45 : (Int32 × q_Pl)), lv_has ls 4 [(3, .int i3_45), (2, .int x_1), (0, .ref (a 0)), (1, .int x0)] → va_P (dC, dI) vwCl (wSg a cI cJ F B K N_45 I T) H → va_D A (wSg a cI cJ F B K N_45 I T) → va_S A s.heap H locs → fl_X5_makePlan_45 x0 B K nn i3_45 N_45 = some z_45 → (∀ (H : Heap) (locs : List Loc) (ls : Array Slot), lv_has ls 4 [(3, .int z_45.1), (2, .int x_1), (0, .ref (a 0)), (1, .int x0)] → va_P (dC, dI) vwCl (wSg a cI cJ F B K z_45.2 I T) H → va_D A (wSg a cI cJ F B K z_45.2 I T) → va_S A s.heap H locs → W p l e (headSpec wsX5_makePlan ({ frames := 3, cells := 0, slots := 0, locals := 71 } : Room)).room s m [.ref (a 0), .int x0].toArray below meth c H locs 0 0 (MQ below (va_Qv (S := Unit) (fun _ => True) (fun _ => q_E (dC, dI) vwCl (wSg a cI cJ F B K r0 I T) (q_ty cI cJ) A) A) [.ref (a 0), .int x0].toArray s 0 0 A) (F0 m 87 ls [])) → W p l e (headSpec wsX5_makePlan ({ frames := 3, cells := 0, slots := 0, locals := 71 } : Room)).room s m [.ref (a 0), .int x0].toArray below meth c H locs 0 0 (MQ below (va_Qv (S := Unit) (fun _ => True) (fun _ => q_E (dC, dI) vwCl (wSg a cI cJ F B K r0 I T) (q_ty cI cJ) A) A) [.ref (a 0), .int x0].toArray s 0 0 A) (F0 m 45 ls []) := by
      intro nn
      induction nn with
      | zero =>
        intro i3_45 N_45 H locs ls z_45 hl hP hD hS hf hex_45
        rw [fl_X5_makePlan_45] at hf
        cases hf
      | succ nn ih =>
        intro i3_45 N_45 H locs ls z_45 hl hP hD hS hf hex_45
        rw [fl_X5_makePlan_45] at hf
        refine lv_iload_n hx hb dX5_makePlan_45 rfl (lv_at hl 0 rfl) ?_
        refine lv_aload_n hx hb dX5_makePlan_46 rfl (lv_at hl 2 rfl) ?_
        refine va_get (D := (dC, dI)) (ci := 5) (v := .ref (a 4)) (C := RX5) (T := TX5) (N := 9) hx hb hts hi5 hown hK hP 0 rfl rfl 1 (by decide) (hts (.fieldLink RX5 19 RX5 "book" "LFlapline$Book;") (by decide +kernel)) (fun _ h9 => h9) rfl dX5_makePlan_47 ?_
        refine va_getN (D := (dC, dI)) (ci := 1) (v := .int K.2.2.2.2.2.2) (C := RX1) (T := TX1) (N := 7) hx hb hts hi1 hown hK hP 4 rfl rfl 6 (by decide) (nf_RX5_95 hn) (fun _ h9 => h9) rfl dX5_makePlan_50 ?_
        refine lv_icmp_ge (tgt := 87) hx hb dX5_makePlan_53 (by decide) (fun c_4 => ?_) (fun c_4 => ?_)
        · replace hf := (if_pos c_4).symm.trans hf
          replace hf := Option.some.inj hf
          subst hf
          exact hex_45 H locs ls (lv_sub hl [0, 1, 2, 3] rfl) hP hD hS
        · replace hf := (if_neg c_4).symm.trans hf
          refine lv_iload_n hx hb dX5_makePlan_56 rfl (lv_at hl 0 rfl) ?_
          refine lv_iload_n hx hb dX5_makePlan_57 rfl (lv_at hl 3 rfl) ?_
          refine lv_icmp_eq (tgt := 81) hx hb dX5_makePlan_58 (by decide) (fun c_5 => ?_) (fun c_5 => ?_)
          · replace hf := (if_pos c_5).symm.trans hf
            refine lv_iinc (v := i3_45 + 1) (lv' := [(3, .int (i3_45 + 1)), (2, .int x_1), (0, .ref (a 0)), (1, .int x0)]) hx hb dX5_makePlan_81 hl (k := 0) rfl rfl (by decide) rfl (fun ls hl => ?_)
            refine lv_goto (tgt := 45) hx hb dX5_makePlan_84 (by decide) ?_
            exact ih (i3_45 + 1) N_45 H locs ls _ (lv_sub hl [0, 1, 2, 3] rfl) hP hD hS hf hex_45
          · replace hf := (if_neg c_5).symm.trans hf
            refine lv_aload_n hx hb dX5_makePlan_61 rfl (lv_at hl 2 rfl) ?_
            refine lv_aload_n hx hb dX5_makePlan_62 rfl (lv_at hl 2 rfl) ?_
            refine va_get (D := (dC, dI)) (ci := 5) (v := .ref (a 1)) (C := RX5) (T := TX5) (N := 9) hx hb hts hi5 hown hK hP 0 rfl rfl 0 (by decide) (hts (.fieldLink RX5 10 RX5 "board" "LFlapline$Board;") (by decide +kernel)) (fun _ h9 => h9) rfl dX5_makePlan_63 ?_
            refine va_getN (D := (dC, dI)) (ci := 0) (v := .long B.2.2.2.1) (C := RX0) (T := TX0) (N := 6) hx hb hts hi0 hown hK hP 1 rfl rfl 3 (by decide) (nf_RX5_287 hn) (fun _ h9 => h9) rfl dX5_makePlan_66 ?_
            refine lv_iload_n hx hb dX5_makePlan_69 rfl (lv_at hl 0 rfl) ?_
            obtain ⟨x_6, hx_6, hf⟩ := Option.bind_eq_some_iff.mp hf
            refine q_rV (As := [.long B.2.2.2.1, .int i3_45]) (rest := []) ⟨hx, hb, hml, hown, hts⟩ (c_X5_says l dC dI cI cJ a F B K N_45 I T B.2.2.2.1 i3_45 x_6 hx_6) (cwV 2 hts gX5_makePlan_X5_says rfl rfl rfl (by decide +kernel) ⟨Nat.le_of_ble_eq_true rfl, Nat.le_of_ble_eq_true rfl⟩) hK hn hP (ci := 5) rfl rfl rfl hl.1 rfl (Nat.le_of_ble_eq_true rfl) dX5_makePlan_70 ⟨Nat.zero_le _, Nat.zero_le _⟩ ?_
            refine lv_if_ne (tgt := 81) hx hb dX5_makePlan_73 (by decide) (fun c_7 => ?_) (fun c_7 => ?_)
            · replace hf := (if_neg c_7).symm.trans hf
              refine lv_iinc (v := i3_45 + 1) (lv' := [(3, .int (i3_45 + 1)), (2, .int x_1), (0, .ref (a 0)), (1, .int x0)]) hx hb dX5_makePlan_81 hl (k := 0) rfl rfl (by decide) rfl (fun ls hl => ?_)
              refine lv_goto (tgt := 45) hx hb dX5_makePlan_84 (by decide) ?_
              exact ih (i3_45 + 1) N_45 H locs ls _ (lv_sub hl [0, 1, 2, 3] rfl) hP hD hS hf hex_45
            · replace hf := (if_pos c_7).symm.trans hf
              refine lv_aload_n hx hb dX5_makePlan_76 rfl (lv_at hl 2 rfl) ?_
              refine lv_iload_n hx hb dX5_makePlan_77 rfl (lv_at hl 0 rfl) ?_
              obtain ⟨x_8, hx_8, hf⟩ := Option.bind_eq_some_iff.mp hf
              have hFc := va_free (wc := (wSg a cI cJ F B K N_45 I T)) hD hS hA [0, 1, 2, 3, 4, 5, 6, 7, 8, 9, 10, 11, 12, 13, 14, 15, 16, 17] rfl
              refine va_callv (va_runV (As := [.int i3_45]) (rest := []) ⟨hx, hb, hml, hown, hts⟩ (c_X5_forbidPlacesOf l dC dI cI cJ a H.size F B K N_45 I T i3_45 x_8 hx_8) (cwV 1 hts gX5_makePlan_X5_forbidPlacesOf rfl rfl rfl (by decide +kernel) ⟨Nat.le_of_ble_eq_true rfl, Nat.le_of_ble_eq_true rfl⟩) ⟨q_Wblind, va_recv hK hP (ci := 5) (q0 := 0) rfl rfl, q_Wpre hP hK hn hD⟩ rfl rfl hl.1 rfl (lv_room (Nat.le_of_ble_eq_true rfl)) dX5_makePlan_78 ⟨Nat.zero_le _, Nat.zero_le _⟩) hS (fun q _ h => hFc q h) hFc (fun u t H1 locs ht hvm hw hB hz1 hk1 hS => ?_)
              obtain ⟨hP1, hK1, hD1⟩ := hB
              rw [ht] at hP1
              obtain ⟨hP, hD⟩ := va_join (wr := []) (w1 := (wSg a cI cJ F B K x_8 I T)) hP hD [0, 1, 2, 3, 4, 5, 6, 7, 8, 9, 10, 11, 12, 13, 14, 15, 16, 17] [] rfl rfl (by decide) (by decide) hk1 hFc hP1 hD1
              generalize H1 = H at hP hS ⊢
              have hP : va_P (dC, dI) vwCl (wSg a cI cJ F B K x_8 I T) H := hP
              have hD : va_D A (wSg a cI cJ F B K x_8 I T) := hD
              refine lv_iinc (v := i3_45 + 1) (lv' := [(3, .int (i3_45 + 1)), (2, .int x_1), (0, .ref (a 0)), (1, .int x0)]) hx hb dX5_makePlan_81 hl (k := 0) rfl rfl (by decide) rfl (fun ls hl => ?_)
              refine lv_goto (tgt := 45) hx hb dX5_makePlan_84 (by decide) ?_
              exact ih (i3_45 + 1) x_8 H locs ls _ (lv_sub hl [0, 1, 2, 3] rfl) hP hD hS hf hex_45
    obtain ⟨z_9, hz_9, hf⟩ := Option.bind_eq_some_iff.mp hf
    refine L_45 1000 0 x_3 H locs ls z_9 (lv_sub hl [0, 1, 2, 3] rfl) hP hD hS hz_9 (fun H locs ls hl hP hD hS => ?_)
    refine lv_aload_n hx hb dX5_makePlan_87 rfl (lv_at hl 2 rfl) ?_
    refine va_get (D := (dC, dI)) (ci := 5) (v := .ref (a 10)) (C := RX5) (T := TX5) (N := 9) hx hb hts hi5 hown hK hP 0 rfl rfl 2 (by decide) (hts (.fieldLink RX5 26 RX5 "planner" "LFlapline$Planner;") (by decide +kernel)) (fun _ h9 => h9) rfl dX5_makePlan_88 ?_
    obtain ⟨x_10, hx_10, hf⟩ := Option.bind_eq_some_iff.mp hf
    have hPc := hP.sub (ws' := (wPl (a 10) (a 11) (a 12) (a 13) cI z_9.2)) [10, 11, 12, 13] rfl
    have hDc := hD.sub (ws' := (wPl (a 10) (a 11) (a 12) (a 13) cI z_9.2)) [10, 11, 12, 13] (by decide) rfl
    have hFc := va_free (wc := (wPl (a 10) (a 11) (a 12) (a 13) cI z_9.2)) hD hS hA [10, 11, 12, 13] rfl
    refine va_callv (va_runVN (As := []) (rest := []) ⟨hx, hb, hml, hown, hts⟩ (c_X2_choose l dC dI cI cJ (a 10) (a 11) (a 12) (a 13) H.size z_9.2 x_10 hx_10) ⟨va_cnB 0 hts gX5_makePlan_X2_choose_n371 rfl rfl rfl (nm_RX5_371 hn) (hts (.initialized RX2) (by decide +kernel)) (by decide +kernel) ⟨Nat.le_of_ble_eq_true rfl, Nat.le_of_ble_eq_true rfl⟩, hts (.instanceMethod yX2_choose) (by decide +kernel), hts (.selects RX2 yX2_choose yX2_choose) (by decide +kernel)⟩ ⟨q_Wblind, va_recv hK hPc (ci := 2) (q0 := 0) rfl rfl, q_Wpre hPc hK hn hDc⟩ rfl rfl hl.1 rfl (lv_room (Nat.le_of_ble_eq_true rfl)) dX5_makePlan_91 ⟨Nat.zero_le _, Nat.zero_le _⟩) hS (fun q _ h => hFc q h) hFc (fun u t H1 locs ht hvm hw hB hz1 hk1 hS => ?_)
    obtain ⟨hP1, hK1, hD1⟩ := hB
    rw [ht] at hP1
    obtain ⟨hP, hD⟩ := va_join (wr := [(a 0, .inr (5, [.ref (a 1), .ref (a 4), .ref (a 10), .ref (a 14), .ref (a 15), .int F.1, .int F.2.1, .int F.2.2.1, .int F.2.2.2])), ((a 1), .inr (0, [.ref (a 2), .ref (a 3), .int B.2.2.1, .long B.2.2.2.1, .long B.2.2.2.2.1, .long B.2.2.2.2.2])), ((a 2), .inl (cI, 40, .inl B.1)), ((a 3), .inl (cI, 8, .inl B.2.1)), ((a 4), .inr (1, [.ref (a 5), .ref (a 6), .ref (a 7), .ref (a 8), .ref (a 9), .int K.2.2.2.2.2.1, .int K.2.2.2.2.2.2])), ((a 5), .inl (cI, 7, .inl K.1)), ((a 6), .inl (cI, 7, .inl K.2.1)), ((a 7), .inl (cI, 8, .inl K.2.2.1)), ((a 8), .inl (cI, 8, .inl K.2.2.2.1)), ((a 9), .inl (cJ, 8, .inr (.inl K.2.2.2.2.1))), ((a 14), .inr (4, [.int I.1, .int I.2.1, .int I.2.2.1, .int I.2.2.2.1, .int I.2.2.2.2])), ((a 15), .inr (3, [.ref (a 16), .ref (a 17), .int T.2.2.1, .int T.2.2.2.1, .int T.2.2.2.2])), ((a 16), .inl (cI, 6, .inl T.1)), ((a 17), .inl (cI, 6, .inl T.2.1))]) (w1 := (wPl (a 10) (a 11) (a 12) (a 13) cI x_10)) hP hD [10, 11, 12, 13] [0, 1, 2, 3, 4, 5, 6, 7, 8, 9, 14, 15, 16, 17] rfl rfl (by decide) (by decide) hk1 hFc hP1 hD1
    generalize H1 = H at hP hS ⊢
    replace hP := hP.sub (ws' := (wSg a cI cJ F B K x_10 I T)) [0, 1, 2, 3, 4, 5, 6, 7, 8, 9, 14, 15, 16, 17, 10, 11, 12, 13] rfl
    replace hD := hD.sub (ws' := (wSg a cI cJ F B K x_10 I T)) [0, 1, 2, 3, 4, 5, 6, 7, 8, 9, 14, 15, 16, 17, 10, 11, 12, 13] (by decide) rfl
    have hP : va_P (dC, dI) vwCl (wSg a cI cJ F B K x_10 I T) H := hP
    have hD : va_D A (wSg a cI cJ F B K x_10 I T) := hD
    replace hf := Option.some.inj hf
    subst hf
    exact W.vret hx hb hr (fun t ht hW => ⟨⟨(), rfl, trivial, ⟨by rw [ht]; exact hP, va_K.moved hW.alike hK, hD⟩⟩, hS.F ht⟩) hS.2.2 dX5_makePlan_94
  · replace hf := (if_pos c_2).symm.trans hf
    refine lv_aload_n hx hb dX5_makePlan_11 rfl (lv_at hl 1 rfl) ?_
    refine va_get (D := (dC, dI)) (ci := 5) (v := .ref (a 10)) (C := RX5) (T := TX5) (N := 9) hx hb hts hi5 hown hK hP 0 rfl rfl 2 (by decide) (hts (.fieldLink RX5 26 RX5 "planner" "LFlapline$Planner;") (by decide +kernel)) (fun _ h9 => h9) rfl dX5_makePlan_12 ?_
    have hPc := hP.sub (ws' := (wPl (a 10) (a 11) (a 12) (a 13) cI N)) [10, 11, 12, 13] rfl
    have hDc := hD.sub (ws' := (wPl (a 10) (a 11) (a 12) (a 13) cI N)) [10, 11, 12, 13] (by decide) rfl
    have hFc := va_free (wc := (wPl (a 10) (a 11) (a 12) (a 13) cI N)) hD hS hA [10, 11, 12, 13] rfl
    refine va_callv (va_runVN (As := []) (rest := []) ⟨hx, hb, hml, hown, hts⟩ (c_X2_giveUp l dC dI cI cJ (a 10) (a 11) (a 12) (a 13) H.size N) ⟨va_cnB 0 hts gX5_makePlan_X2_giveUp_n362 rfl rfl rfl (nm_RX5_362 hn) (hts (.initialized RX2) (by decide +kernel)) (by decide +kernel) ⟨Nat.le_of_ble_eq_true rfl, Nat.le_of_ble_eq_true rfl⟩, hts (.instanceMethod yX2_giveUp) (by decide +kernel), hts (.selects RX2 yX2_giveUp yX2_giveUp) (by decide +kernel)⟩ ⟨q_Wblind, va_recv hK hPc (ci := 2) (q0 := 0) rfl rfl, q_Wpre hPc hK hn hDc⟩ rfl rfl hl.1 rfl (lv_room (Nat.le_of_ble_eq_true rfl)) dX5_makePlan_15 ⟨Nat.zero_le _, Nat.zero_le _⟩) hS (fun q _ h => hFc q h) hFc (fun u t H1 locs ht hvm hw hB hz1 hk1 hS => ?_)
    obtain ⟨hP1, hK1, hD1⟩ := hB
    rw [ht] at hP1
    obtain ⟨hP, hD⟩ := va_join (wr := [(a 0, .inr (5, [.ref (a 1), .ref (a 4), .ref (a 10), .ref (a 14), .ref (a 15), .int F.1, .int F.2.1, .int F.2.2.1, .int F.2.2.2])), ((a 1), .inr (0, [.ref (a 2), .ref (a 3), .int B.2.2.1, .long B.2.2.2.1, .long B.2.2.2.2.1, .long B.2.2.2.2.2])), ((a 2), .inl (cI, 40, .inl B.1)), ((a 3), .inl (cI, 8, .inl B.2.1)), ((a 4), .inr (1, [.ref (a 5), .ref (a 6), .ref (a 7), .ref (a 8), .ref (a 9), .int K.2.2.2.2.2.1, .int K.2.2.2.2.2.2])), ((a 5), .inl (cI, 7, .inl K.1)), ((a 6), .inl (cI, 7, .inl K.2.1)), ((a 7), .inl (cI, 8, .inl K.2.2.1)), ((a 8), .inl (cI, 8, .inl K.2.2.2.1)), ((a 9), .inl (cJ, 8, .inr (.inl K.2.2.2.2.1))), ((a 14), .inr (4, [.int I.1, .int I.2.1, .int I.2.2.1, .int I.2.2.2.1, .int I.2.2.2.2])), ((a 15), .inr (3, [.ref (a 16), .ref (a 17), .int T.2.2.1, .int T.2.2.2.1, .int T.2.2.2.2])), ((a 16), .inl (cI, 6, .inl T.1)), ((a 17), .inl (cI, 6, .inl T.2.1))]) (w1 := (wPl (a 10) (a 11) (a 12) (a 13) cI (f_X2_giveUp N))) hP hD [10, 11, 12, 13] [0, 1, 2, 3, 4, 5, 6, 7, 8, 9, 14, 15, 16, 17] rfl rfl (by decide) (by decide) hk1 hFc hP1 hD1
    generalize H1 = H at hP hS ⊢
    replace hP := hP.sub (ws' := (wSg a cI cJ F B K (f_X2_giveUp N) I T)) [0, 1, 2, 3, 4, 5, 6, 7, 8, 9, 14, 15, 16, 17, 10, 11, 12, 13] rfl
    replace hD := hD.sub (ws' := (wSg a cI cJ F B K (f_X2_giveUp N) I T)) [0, 1, 2, 3, 4, 5, 6, 7, 8, 9, 14, 15, 16, 17, 10, 11, 12, 13] (by decide) rfl
    have hP : va_P (dC, dI) vwCl (wSg a cI cJ F B K (f_X2_giveUp N) I T) H := hP
    have hD : va_D A (wSg a cI cJ F B K (f_X2_giveUp N) I T) := hD
    replace hf := Option.some.inj hf
    subst hf
    exact W.vret hx hb hr (fun t ht hW => ⟨⟨(), rfl, trivial, ⟨by rw [ht]; exact hP, va_K.moved hW.alike hK, hD⟩⟩, hS.F ht⟩) hS.2.2 dX5_makePlan_18
def f_X5_bringUp (F : q_Fl) (B : q_Bd) (K : q_Bk) (N : q_Pl) (x0 : Int32) : Option (Int32 × q_Fl × q_Bd × q_Pl) := ((f_X5_makePlan F B K N x0).bind fun x_1 => (if x_1.2.2.2.2.2.2.2 = (-1) then some (x_1.2.2.2.2.2.2.2, F, B, x_1) else ((f_X0_turnTo B x_1.2.2.2.2.1).bind fun x_3 => some (x_1.2.2.2.2.2.2.2, (F.1, F.2.1, F.2.2.1 + x_1.2.2.2.2.2.2.2, x0), x_3, x_1))))
set_option maxHeartbeats 4000000 in
set_option maxRecDepth 100000 in
theorem c_X5_bringUp (l : Launch) (dC : Nat → ClassId) (dI : Nat → Nat → Nat) (cI cJ : ClassId) (a : Nat → Nat) (sz : Nat) (F : q_Fl) (B : q_Bd) (K : q_Bk) (N : q_Pl) (I : q_Wi) (T : q_Rt) (x0 : Int32) (r0 : Int32 × q_Fl × q_Bd × q_Pl) (hf : f_X5_bringUp F B K N x0 = some r0) : Met l yX5_bringUp wsX5_bringUp ({ frames := 4, cells := 0, slots := 0, locals := 94 } : Room) (va_Pc [.ref (a 0), .int x0] (q_W (dC, dI) vwCl (wSg a cI cJ F B K N I T) (q_ty cI cJ) sz)) (va_Qi (S := Unit) (fun r_ _ => r_ = r0.1) (fun _ => q_E (dC, dI) vwCl (wSg a cI cJ r0.2.1 r0.2.2.1 K r0.2.2.2 I T) (q_ty cI cJ) (va_A (wSg a cI cJ F B K N I T) sz)) (va_A (wSg a cI cJ F B K N I T) sz)) 0 0 (va_A (wSg a cI cJ F B K N I T) sz) := by
  refine Met.ofW (cc := cX5_bringUp) (maxL := 2) (ret := (some .int)) (by decide) rfl ?_
  intro p e s m args below meth c s₁ BB hml hv
  obtain ⟨rfl, hsz, hP, hK, hn, hD0⟩ := hv
  have hx := BB.exec
  have hb := BB.bytes
  have hr := BB.returns
  have hts := atoms_spec (ws := wsX5_bringUp) BB.pre
  have hown : s.vm.findClass RX5 = some m.cls := findClass_of_methodNamed BB.named
  have hlocks := BB.notSynchronized
  subst hsz
  have hD := hD0.self (sz := s.heap.size)
  generalize hAe : va_A (wSg a cI cJ F B K N I T) s.heap.size = A at hD ⊢
  have hA : ∀ q : Nat, s.heap.size ≤ q → A q := fun q h => by rw [← hAe]; exact Or.inr h
  have hS : va_S A s.heap s.heap [] := va_S.rf
  have hi2 : ∀ w ∈ u_ws RX2 TX2 8, w ∈ wsX5_bringUp := by decide +kernel
  have hi5 : ∀ w ∈ u_ws RX5 TX5 9, w ∈ wsX5_bringUp := by decide +kernel
  have hl := lv_entry [.ref (a 0), .int x0] (n := 2) (Nat.le_of_ble_eq_true rfl)
  rw [lg_entry_eq]
  generalize (lg_sl [.ref (a 0), .int x0] ++ List.replicate (2 - (lg_sl [.ref (a 0), .int x0]).length) Slot.unset).toArray = ls at hl ⊢
  have hl : lv_has ls 2 [(0, .ref (a 0)), (1, .int x0)] := hl
  obtain ⟨H, hH⟩ : ∃ H, H = s.heap := ⟨_, rfl⟩
  obtain ⟨locs, hlocs⟩ : ∃ x : List Loc, x = [] := ⟨_, rfl⟩
  rw [← hH] at hP
  have hS : va_S A s.heap H locs := by rw [hH, hlocs]; exact hS
  suffices hgoal : ∀ (H : Heap) (locs : List Loc), va_P (dC, dI) vwCl (wSg a cI cJ F B K N I T) H → va_S A s.heap H locs → W p l e (headSpec wsX5_bringUp ({ frames := 4, cells := 0, slots := 0, locals := 94 } : Room)).room s m [.ref (a 0), .int x0].toArray below meth c H locs 0 0 (MQ below (va_Qi (S := Unit) (fun r_ _ => r_ = r0.1) (fun _ => q_E (dC, dI) vwCl (wSg a cI cJ r0.2.1 r0.2.2.1 K r0.2.2.2 I T) (q_ty cI cJ) A) A) [.ref (a 0), .int x0].toArray s 0 0 A) (F0 m 0 ls []) by
    have h9 := hgoal H locs hP hS
    rw [hH, hlocs] at h9
    exact h9
  clear hP hS hH H hlocs locs
  intro H locs hP hS
  unfold f_X5_bringUp at hf
  refine lv_aload_n hx hb dX5_bringUp_0 rfl (lv_at hl 0 rfl) ?_
  refine lv_iload_n hx hb dX5_bringUp_1 rfl (lv_at hl 1 rfl) ?_
  obtain ⟨x_1, hx_1, hf⟩ := Option.bind_eq_some_iff.mp hf
  have hFc := va_free (wc := (wSg a cI cJ F B K N I T)) hD hS hA [0, 1, 2, 3, 4, 5, 6, 7, 8, 9, 10, 11, 12, 13, 14, 15, 16, 17] rfl
  refine va_callv (va_runV (As := [.int x0]) (rest := []) ⟨hx, hb, hml, hown, hts⟩ (c_X5_makePlan l dC dI cI cJ a H.size F B K N I T x0 x_1 hx_1) (cwV 1 hts gX5_bringUp_X5_makePlan rfl rfl rfl (by decide +kernel) ⟨Nat.le_of_ble_eq_true rfl, Nat.le_of_ble_eq_true rfl⟩) ⟨q_Wblind, va_recv hK hP (ci := 5) (q0 := 0) rfl rfl, q_Wpre hP hK hn hD⟩ rfl rfl hl.1 rfl (lv_room (Nat.le_of_ble_eq_true rfl)) dX5_bringUp_2 ⟨Nat.zero_le _, Nat.zero_le _⟩) hS (fun q _ h => hFc q h) hFc (fun u t H1 locs ht hvm hw hB hz1 hk1 hS => ?_)
  obtain ⟨hP1, hK1, hD1⟩ := hB
  rw [ht] at hP1
  obtain ⟨hP, hD⟩ := va_join (wr := []) (w1 := (wSg a cI cJ F B K x_1 I T)) hP hD [0, 1, 2, 3, 4, 5, 6, 7, 8, 9, 10, 11, 12, 13, 14, 15, 16, 17] [] rfl rfl (by decide) (by decide) hk1 hFc hP1 hD1
  generalize H1 = H at hP hS ⊢
  have hP : va_P (dC, dI) vwCl (wSg a cI cJ F B K x_1 I T) H := hP
  have hD : va_D A (wSg a cI cJ F B K x_1 I T) := hD
  refine lv_aload_n hx hb dX5_bringUp_5 rfl (lv_at hl 0 rfl) ?_
  refine va_get (D := (dC, dI)) (ci := 5) (v := .ref (a 10)) (C := RX5) (T := TX5) (N := 9) hx hb hts hi5 hown hK hP 0 rfl rfl 2 (by decide) (hts (.fieldLink RX5 26 RX5 "planner" "LFlapline$Planner;") (by decide +kernel)) (fun _ h9 => h9) rfl dX5_bringUp_6 ?_
  refine va_getN (D := (dC, dI)) (ci := 2) (v := .int x_1.2.2.2.2.2.2.2) (C := RX2) (T := TX2) (N := 8) hx hb hts hi2 hown hK hP 10 rfl rfl 7 (by decide) (nf_RX5_318 hn) (fun _ h9 => h9) rfl dX5_bringUp_9 ?_
  refine lv_iconst (v := (-1)) hx hb dX5_bringUp_12 (by decide) ?_
  refine lv_icmp_eq (tgt := 51) hx hb dX5_bringUp_13 (by decide) (fun c_2 => ?_) (fun c_2 => ?_)
  · replace hf := (if_pos c_2).symm.trans hf
    refine lv_aload_n hx hb dX5_bringUp_51 rfl (lv_at hl 0 rfl) ?_
    refine va_get (D := (dC, dI)) (ci := 5) (v := .ref (a 10)) (C := RX5) (T := TX5) (N := 9) hx hb hts hi5 hown hK hP 0 rfl rfl 2 (by decide) (hts (.fieldLink RX5 26 RX5 "planner" "LFlapline$Planner;") (by decide +kernel)) (fun _ h9 => h9) rfl dX5_bringUp_52 ?_
    refine va_getN (D := (dC, dI)) (ci := 2) (v := .int x_1.2.2.2.2.2.2.2) (C := RX2) (T := TX2) (N := 8) hx hb hts hi2 hown hK hP 10 rfl rfl 7 (by decide) (nf_RX5_318 hn) (fun _ h9 => h9) rfl dX5_bringUp_55 ?_
    replace hf := Option.some.inj hf
    subst hf
    exact W.iret (v := x_1.2.2.2.2.2.2.2) hx hb hr (fun t ht hW => ⟨⟨x_1.2.2.2.2.2.2.2, (), rfl, rfl, ⟨by rw [ht]; exact hP, va_K.moved hW.alike hK, hD⟩⟩, hS.F ht⟩) hS.2.2 dX5_bringUp_58
  · replace hf := (if_neg c_2).symm.trans hf
    refine lv_aload_n hx hb dX5_bringUp_16 rfl (lv_at hl 0 rfl) ?_
    refine va_get (D := (dC, dI)) (ci := 5) (v := .ref (a 1)) (C := RX5) (T := TX5) (N := 9) hx hb hts hi5 hown hK hP 0 rfl rfl 0 (by decide) (hts (.fieldLink RX5 10 RX5 "board" "LFlapline$Board;") (by decide +kernel)) (fun _ h9 => h9) rfl dX5_bringUp_17 ?_
    refine lv_aload_n hx hb dX5_bringUp_20 rfl (lv_at hl 0 rfl) ?_
    refine va_get (D := (dC, dI)) (ci := 5) (v := .ref (a 10)) (C := RX5) (T := TX5) (N := 9) hx hb hts hi5 hown hK hP 0 rfl rfl 2 (by decide) (hts (.fieldLink RX5 26 RX5 "planner" "LFlapline$Planner;") (by decide +kernel)) (fun _ h9 => h9) rfl dX5_bringUp_21 ?_
    refine va_getN (D := (dC, dI)) (ci := 2) (v := .long x_1.2.2.2.2.1) (C := RX2) (T := TX2) (N := 8) hx hb hts hi2 hown hK hP 10 rfl rfl 4 (by decide) (nf_RX5_355 hn) (fun _ h9 => h9) rfl dX5_bringUp_24 ?_
    obtain ⟨x_3, hx_3, hf⟩ := Option.bind_eq_some_iff.mp hf
    have hPc := hP.sub (ws' := (wBd (a 1) (a 2) (a 3) cI B)) [1, 2, 3] rfl
    have hDc := hD.sub (ws' := (wBd (a 1) (a 2) (a 3) cI B)) [1, 2, 3] (by decide) rfl
    have hFc := va_free (wc := (wBd (a 1) (a 2) (a 3) cI B)) hD hS hA [1, 2, 3] rfl
    refine va_callv (va_runVN (As := [.long x_1.2.2.2.2.1]) (rest := []) ⟨hx, hb, hml, hown, hts⟩ (c_X0_turnTo l dC dI cI cJ (a 1) (a 2) (a 3) H.size B x_1.2.2.2.2.1 x_3 hx_3) ⟨va_cnB 1 hts gX5_bringUp_X0_turnTo_n358 rfl rfl rfl (nm_RX5_358 hn) (hts (.initialized RX0) (by decide +kernel)) (by decide +kernel) ⟨Nat.le_of_ble_eq_true rfl, Nat.le_of_ble_eq_true rfl⟩, hts (.instanceMethod yX0_turnTo) (by decide +kernel), hts (.selects RX0 yX0_turnTo yX0_turnTo) (by decide +kernel)⟩ ⟨q_Wblind, va_recv hK hPc (ci := 0) (q0 := 0) rfl rfl, q_Wpre hPc hK hn hDc⟩ rfl rfl hl.1 rfl (lv_room (Nat.le_of_ble_eq_true rfl)) dX5_bringUp_27 ⟨Nat.zero_le _, Nat.zero_le _⟩) hS (fun q _ h => hFc q h) hFc (fun u t H1 locs ht hvm hw hB hz1 hk1 hS => ?_)
    obtain ⟨hP1, hK1, hD1⟩ := hB
    rw [ht] at hP1
    obtain ⟨hP, hD⟩ := va_join (wr := [(a 0, .inr (5, [.ref (a 1), .ref (a 4), .ref (a 10), .ref (a 14), .ref (a 15), .int F.1, .int F.2.1, .int F.2.2.1, .int F.2.2.2])), ((a 4), .inr (1, [.ref (a 5), .ref (a 6), .ref (a 7), .ref (a 8), .ref (a 9), .int K.2.2.2.2.2.1, .int K.2.2.2.2.2.2])), ((a 5), .inl (cI, 7, .inl K.1)), ((a 6), .inl (cI, 7, .inl K.2.1)), ((a 7), .inl (cI, 8, .inl K.2.2.1)), ((a 8), .inl (cI, 8, .inl K.2.2.2.1)), ((a 9), .inl (cJ, 8, .inr (.inl K.2.2.2.2.1))), ((a 10), .inr (2, [.ref (a 11), .ref (a 12), .ref (a 13), .long x_1.2.2.2.1, .long x_1.2.2.2.2.1, .int x_1.2.2.2.2.2.1, .int x_1.2.2.2.2.2.2.1, .int x_1.2.2.2.2.2.2.2])), ((a 11), .inl (cI, 256, .inl x_1.1)), ((a 12), .inl (cI, 256, .inl x_1.2.1)), ((a 13), .inl (cI, 8, .inl x_1.2.2.1)), ((a 14), .inr (4, [.int I.1, .int I.2.1, .int I.2.2.1, .int I.2.2.2.1, .int I.2.2.2.2])), ((a 15), .inr (3, [.ref (a 16), .ref (a 17), .int T.2.2.1, .int T.2.2.2.1, .int T.2.2.2.2])), ((a 16), .inl (cI, 6, .inl T.1)), ((a 17), .inl (cI, 6, .inl T.2.1))]) (w1 := (wBd (a 1) (a 2) (a 3) cI x_3)) hP hD [1, 2, 3] [0, 4, 5, 6, 7, 8, 9, 10, 11, 12, 13, 14, 15, 16, 17] rfl rfl (by decide) (by decide) hk1 hFc hP1 hD1
    generalize H1 = H at hP hS ⊢
    replace hP := hP.sub (ws' := (wSg a cI cJ F x_3 K x_1 I T)) [0, 15, 16, 17, 1, 2, 3, 4, 5, 6, 7, 8, 9, 10, 11, 12, 13, 14] rfl
    replace hD := hD.sub (ws' := (wSg a cI cJ F x_3 K x_1 I T)) [0, 15, 16, 17, 1, 2, 3, 4, 5, 6, 7, 8, 9, 10, 11, 12, 13, 14] (by decide) rfl
    have hP : va_P (dC, dI) vwCl (wSg a cI cJ F x_3 K x_1 I T) H := hP
    have hD : va_D A (wSg a cI cJ F x_3 K x_1 I T) := hD
    refine lv_aload_n hx hb dX5_bringUp_30 rfl (lv_at hl 0 rfl) ?_
    refine lv_dup hx hb dX5_bringUp_31 rfl ?_
    refine va_get (D := (dC, dI)) (ci := 5) (v := .int F.2.2.1) (C := RX5) (T := TX5) (N := 9) hx hb hts hi5 hown hK hP 0 rfl rfl 7 (by decide) (hts (.fieldLink RX5 335 RX5 "stepsEver" "I") (by decide +kernel)) (fun _ h9 => h9) rfl dX5_bringUp_32 ?_
    refine lv_aload_n hx hb dX5_bringUp_35 rfl (lv_at hl 0 rfl) ?_
    refine va_get (D := (dC, dI)) (ci := 5) (v := .ref (a 10)) (C := RX5) (T := TX5) (N := 9) hx hb hts hi5 hown hK hP 0 rfl rfl 2 (by decide) (hts (.fieldLink RX5 26 RX5 "planner" "LFlapline$Planner;") (by decide +kernel)) (fun _ h9 => h9) rfl dX5_bringUp_36 ?_
    refine va_getN (D := (dC, dI)) (ci := 2) (v := .int x_1.2.2.2.2.2.2.2) (C := RX2) (T := TX2) (N := 8) hx hb hts hi2 hown hK hP 10 rfl rfl 7 (by decide) (nf_RX5_318 hn) (fun _ h9 => h9) rfl dX5_bringUp_39 ?_
    refine lv_iadd hx hb dX5_bringUp_42 ?_
    refine va_put (D := (dC, dI)) (ci := 5) (v := .int (F.2.2.1 + x_1.2.2.2.2.2.2.2)) (ty := .int) (C := RX5) (T := TX5) (N := 9) hx hb hts hi5 tyX5 tyX5_ok nmX5 hown hK hP hD hS 0 rfl rfl 7 (by decide) (hts (.fieldLink RX5 335 RX5 "stepsEver" "I") (by decide +kernel)) (fun _ h9 => h9) rfl (by decide +kernel) rfl rfl (Nat.le_of_ble_eq_true rfl) dX5_bringUp_43 (fun H locs hP hD hS => ?_)
    have hP : va_P (dC, dI) vwCl (wSg a cI cJ (F.1, F.2.1, F.2.2.1 + x_1.2.2.2.2.2.2.2, F.2.2.2) x_3 K x_1 I T) H := hP
    have hD : va_D A (wSg a cI cJ (F.1, F.2.1, F.2.2.1 + x_1.2.2.2.2.2.2.2, F.2.2.2) x_3 K x_1 I T) := hD
    refine lv_aload_n hx hb dX5_bringUp_46 rfl (lv_at hl 0 rfl) ?_
    refine lv_iload_n hx hb dX5_bringUp_47 rfl (lv_at hl 1 rfl) ?_
    refine va_put (D := (dC, dI)) (ci := 5) (v := .int x0) (ty := .int) (C := RX5) (T := TX5) (N := 9) hx hb hts hi5 tyX5 tyX5_ok nmX5 hown hK hP hD hS 0 rfl rfl 8 (by decide) (hts (.fieldLink RX5 51 RX5 "shownLast" "I") (by decide +kernel)) (fun _ h9 => h9) rfl (by decide +kernel) rfl rfl (Nat.le_of_ble_eq_true rfl) dX5_bringUp_48 (fun H locs hP hD hS => ?_)
    have hP : va_P (dC, dI) vwCl (wSg a cI cJ (F.1, F.2.1, F.2.2.1 + x_1.2.2.2.2.2.2.2, x0) x_3 K x_1 I T) H := hP
    have hD : va_D A (wSg a cI cJ (F.1, F.2.1, F.2.2.1 + x_1.2.2.2.2.2.2.2, x0) x_3 K x_1 I T) := hD
    refine lv_aload_n hx hb dX5_bringUp_51 rfl (lv_at hl 0 rfl) ?_
    refine va_get (D := (dC, dI)) (ci := 5) (v := .ref (a 10)) (C := RX5) (T := TX5) (N := 9) hx hb hts hi5 hown hK hP 0 rfl rfl 2 (by decide) (hts (.fieldLink RX5 26 RX5 "planner" "LFlapline$Planner;") (by decide +kernel)) (fun _ h9 => h9) rfl dX5_bringUp_52 ?_
    refine va_getN (D := (dC, dI)) (ci := 2) (v := .int x_1.2.2.2.2.2.2.2) (C := RX2) (T := TX2) (N := 8) hx hb hts hi2 hown hK hP 10 rfl rfl 7 (by decide) (nf_RX5_318 hn) (fun _ h9 => h9) rfl dX5_bringUp_55 ?_
    replace hf := Option.some.inj hf
    subst hf
    exact W.iret (v := x_1.2.2.2.2.2.2.2) hx hb hr (fun t ht hW => ⟨⟨x_1.2.2.2.2.2.2.2, (), rfl, rfl, ⟨by rw [ht]; exact hP, va_K.moved hW.alike hK, hD⟩⟩, hS.F ht⟩) hS.2.2 dX5_bringUp_58
def f_X5_show (F : q_Fl) (B : q_Bd) (K : q_Bk) (N : q_Pl) (x0 : Int32) : Option (Int32 × q_Fl × q_Bd × q_Pl) := ((f_X5_needLine K x0).bind fun x_1 => ((f_X5_bringUp F B K N x0).bind fun x_2 => some (x_2.1, x_2.2.1, x_2.2.2.1, x_2.2.2.2)))
set_option maxHeartbeats 4000000 in
set_option maxRecDepth 100000 in
theorem c_X5_show (l : Launch) (dC : Nat → ClassId) (dI : Nat → Nat → Nat) (cI cJ : ClassId) (a : Nat → Nat) (sz : Nat) (F : q_Fl) (B : q_Bd) (K : q_Bk) (N : q_Pl) (I : q_Wi) (T : q_Rt) (x0 : Int32) (r0 : Int32 × q_Fl × q_Bd × q_Pl) (hf : f_X5_show F B K N x0 = some r0) : Met l yX5_show wsX5_show ({ frames := 5, cells := 0, slots := 0, locals := 115 } : Room) (va_Pc [.ref (a 0), .int x0] (q_W (dC, dI) vwCl (wSg a cI cJ F B K N I T) (q_ty cI cJ) sz)) (va_Qi (S := Unit) (fun r_ _ => r_ = r0.1) (fun _ => q_E (dC, dI) vwCl (wSg a cI cJ r0.2.1 r0.2.2.1 K r0.2.2.2 I T) (q_ty cI cJ) (va_A (wSg a cI cJ F B K N I T) sz)) (va_A (wSg a cI cJ F B K N I T) sz)) 0 0 (va_A (wSg a cI cJ F B K N I T) sz) := by
  refine Met.ofW (cc := cX5_show) (maxL := 2) (ret := (some .int)) (by decide) rfl ?_
  intro p e s m args below meth c s₁ BB hml hv
  obtain ⟨rfl, hsz, hP, hK, hn, hD0⟩ := hv
  have hx := BB.exec
  have hb := BB.bytes
  have hr := BB.returns
  have hts := atoms_spec (ws := wsX5_show) BB.pre
  have hown : s.vm.findClass RX5 = some m.cls := findClass_of_methodNamed BB.named
  have hlocks := BB.notSynchronized
  subst hsz
  have hD := hD0.self (sz := s.heap.size)
  generalize hAe : va_A (wSg a cI cJ F B K N I T) s.heap.size = A at hD ⊢
  have hA : ∀ q : Nat, s.heap.size ≤ q → A q := fun q h => by rw [← hAe]; exact Or.inr h
  have hS : va_S A s.heap s.heap [] := va_S.rf
  have hl := lv_entry [.ref (a 0), .int x0] (n := 2) (Nat.le_of_ble_eq_true rfl)
  rw [lg_entry_eq]
  generalize (lg_sl [.ref (a 0), .int x0] ++ List.replicate (2 - (lg_sl [.ref (a 0), .int x0]).length) Slot.unset).toArray = ls at hl ⊢
  have hl : lv_has ls 2 [(0, .ref (a 0)), (1, .int x0)] := hl
  obtain ⟨H, hH⟩ : ∃ H, H = s.heap := ⟨_, rfl⟩
  obtain ⟨locs, hlocs⟩ : ∃ x : List Loc, x = [] := ⟨_, rfl⟩
  rw [← hH] at hP
  have hS : va_S A s.heap H locs := by rw [hH, hlocs]; exact hS
  suffices hgoal : ∀ (H : Heap) (locs : List Loc), va_P (dC, dI) vwCl (wSg a cI cJ F B K N I T) H → va_S A s.heap H locs → W p l e (headSpec wsX5_show ({ frames := 5, cells := 0, slots := 0, locals := 115 } : Room)).room s m [.ref (a 0), .int x0].toArray below meth c H locs 0 0 (MQ below (va_Qi (S := Unit) (fun r_ _ => r_ = r0.1) (fun _ => q_E (dC, dI) vwCl (wSg a cI cJ r0.2.1 r0.2.2.1 K r0.2.2.2 I T) (q_ty cI cJ) A) A) [.ref (a 0), .int x0].toArray s 0 0 A) (F0 m 0 ls []) by
    have h9 := hgoal H locs hP hS
    rw [hH, hlocs] at h9
    exact h9
  clear hP hS hH H hlocs locs
  intro H locs hP hS
  unfold f_X5_show at hf
  refine lv_aload_n hx hb dX5_show_0 rfl (lv_at hl 0 rfl) ?_
  refine lv_iload_n hx hb dX5_show_1 rfl (lv_at hl 1 rfl) ?_
  obtain ⟨x_1, hx_1, hf⟩ := Option.bind_eq_some_iff.mp hf
  refine q_vV (As := [.int x0]) (rest := []) ⟨hx, hb, hml, hown, hts⟩ (c_X5_needLine l dC dI cI cJ a F B K N I T x0 x_1 hx_1) (cwV 1 hts gX5_show_X5_needLine rfl rfl rfl (by decide +kernel) ⟨Nat.le_of_ble_eq_true rfl, Nat.le_of_ble_eq_true rfl⟩) hK hn hP (ci := 5) rfl rfl rfl hl.1 rfl (Nat.le_of_ble_eq_true rfl) dX5_show_2 ⟨Nat.zero_le _, Nat.zero_le _⟩ ?_
  refine lv_aload_n hx hb dX5_show_5 rfl (lv_at hl 0 rfl) ?_
  refine lv_iload_n hx hb dX5_show_6 rfl (lv_at hl 1 rfl) ?_
  obtain ⟨x_2, hx_2, hf⟩ := Option.bind_eq_some_iff.mp hf
  have hFc := va_free (wc := (wSg a cI cJ F B K N I T)) hD hS hA [0, 1, 2, 3, 4, 5, 6, 7, 8, 9, 10, 11, 12, 13, 14, 15, 16, 17] rfl
  refine va_calli (va_runV (As := [.int x0]) (rest := []) ⟨hx, hb, hml, hown, hts⟩ (c_X5_bringUp l dC dI cI cJ a H.size F B K N I T x0 x_2 hx_2) (cwV 1 hts gX5_show_X5_bringUp rfl rfl rfl (by decide +kernel) ⟨Nat.le_of_ble_eq_true rfl, Nat.le_of_ble_eq_true rfl⟩) ⟨q_Wblind, va_recv hK hP (ci := 5) (q0 := 0) rfl rfl, q_Wpre hP hK hn hD⟩ rfl rfl hl.1 rfl (lv_room (Nat.le_of_ble_eq_true rfl)) dX5_show_7 ⟨Nat.zero_le _, Nat.zero_le _⟩) hS (fun q _ h => hFc q h) hFc (fun r_9 u t H1 locs ht hvm hw hB hz1 hk1 hS => ?_)
  subst hw
  obtain ⟨hP1, hK1, hD1⟩ := hB
  rw [ht] at hP1
  obtain ⟨hP, hD⟩ := va_join (wr := []) (w1 := (wSg a cI cJ x_2.2.1 x_2.2.2.1 K x_2.2.2.2 I T)) hP hD [0, 1, 2, 3, 4, 5, 6, 7, 8, 9, 10, 11, 12, 13, 14, 15, 16, 17] [] rfl rfl (by decide) (by decide) hk1 hFc hP1 hD1
  generalize H1 = H at hP hS ⊢
  have hP : va_P (dC, dI) vwCl (wSg a cI cJ x_2.2.1 x_2.2.2.1 K x_2.2.2.2 I T) H := hP
  have hD : va_D A (wSg a cI cJ x_2.2.1 x_2.2.2.1 K x_2.2.2.2 I T) := hD
  replace hf := Option.some.inj hf
  subst hf
  exact W.iret (v := x_2.1) hx hb hr (fun t ht hW => ⟨⟨x_2.1, (), rfl, rfl, ⟨by rw [ht]; exact hP, va_K.moved hW.alike hK, hD⟩⟩, hS.F ht⟩) hS.2.2 dX5_show_10
def f_X5_ofLine (F : q_Fl) (B : q_Bd) (K : q_Bk) (N : q_Pl) (x0 : Int32) (x1 : Int32) : Option (Int32 × q_Pl) := ((f_X5_needLine K x0).bind fun x_1 => (if x1 < 0 then none else (if x1 ≤ 7 then (if x1 < 6 then ((f_X5_lineFact B K N x0 x1).bind fun x_5 => some (x_5, N)) else ((f_X5_makePlan F B K N x0).bind fun x_6 => ((f_X5_lineFact B K x_6 x0 x1).bind fun x_7 => some (x_7, x_6)))) else none)))
set_option maxHeartbeats 4000000 in
set_option maxRecDepth 100000 in
theorem c_X5_ofLine (l : Launch) (dC : Nat → ClassId) (dI : Nat → Nat → Nat) (cI cJ : ClassId) (a : Nat → Nat) (sz : Nat) (F : q_Fl) (B : q_Bd) (K : q_Bk) (N : q_Pl) (I : q_Wi) (T : q_Rt) (x0 : Int32) (x1 : Int32) (r0 : Int32 × q_Pl) (hf : f_X5_ofLine F B K N x0 x1 = some r0) : Met l yX5_ofLine wsX5_ofLine ({ frames := 5, cells := 0, slots := 0, locals := 113 } : Room) (va_Pc [.ref (a 0), .int x0, .int x1] (q_W (dC, dI) vwCl (wSg a cI cJ F B K N I T) (q_ty cI cJ) sz)) (va_Qi (S := Unit) (fun r_ _ => r_ = r0.1) (fun _ => q_E (dC, dI) vwCl (wSg a cI cJ F B K r0.2 I T) (q_ty cI cJ) (va_A (wSg a cI cJ F B K N I T) sz)) (va_A (wSg a cI cJ F B K N I T) sz)) 0 0 (va_A (wSg a cI cJ F B K N I T) sz) := by
  refine Met.ofW (cc := cX5_ofLine) (maxL := 3) (ret := (some .int)) (by decide) rfl ?_
  intro p e s m args below meth c s₁ BB hml hv
  obtain ⟨rfl, hsz, hP, hK, hn, hD0⟩ := hv
  have hx := BB.exec
  have hb := BB.bytes
  have hr := BB.returns
  have hts := atoms_spec (ws := wsX5_ofLine) BB.pre
  have hown : s.vm.findClass RX5 = some m.cls := findClass_of_methodNamed BB.named
  have hlocks := BB.notSynchronized
  subst hsz
  have hD := hD0.self (sz := s.heap.size)
  generalize hAe : va_A (wSg a cI cJ F B K N I T) s.heap.size = A at hD ⊢
  have hA : ∀ q : Nat, s.heap.size ≤ q → A q := fun q h => by rw [← hAe]; exact Or.inr h
  have hS : va_S A s.heap s.heap [] := va_S.rf
  have hl := lv_entry [.ref (a 0), .int x0, .int x1] (n := 3) (Nat.le_of_ble_eq_true rfl)
  rw [lg_entry_eq]
  generalize (lg_sl [.ref (a 0), .int x0, .int x1] ++ List.replicate (3 - (lg_sl [.ref (a 0), .int x0, .int x1]).length) Slot.unset).toArray = ls at hl ⊢
  have hl : lv_has ls 3 [(0, .ref (a 0)), (1, .int x0), (2, .int x1)] := hl
  obtain ⟨H, hH⟩ : ∃ H, H = s.heap := ⟨_, rfl⟩
  obtain ⟨locs, hlocs⟩ : ∃ x : List Loc, x = [] := ⟨_, rfl⟩
  rw [← hH] at hP
  have hS : va_S A s.heap H locs := by rw [hH, hlocs]; exact hS
  suffices hgoal : ∀ (H : Heap) (locs : List Loc), va_P (dC, dI) vwCl (wSg a cI cJ F B K N I T) H → va_S A s.heap H locs → W p l e (headSpec wsX5_ofLine ({ frames := 5, cells := 0, slots := 0, locals := 113 } : Room)).room s m [.ref (a 0), .int x0, .int x1].toArray below meth c H locs 0 0 (MQ below (va_Qi (S := Unit) (fun r_ _ => r_ = r0.1) (fun _ => q_E (dC, dI) vwCl (wSg a cI cJ F B K r0.2 I T) (q_ty cI cJ) A) A) [.ref (a 0), .int x0, .int x1].toArray s 0 0 A) (F0 m 0 ls []) by
    have h9 := hgoal H locs hP hS
    rw [hH, hlocs] at h9
    exact h9
  clear hP hS hH H hlocs locs
  intro H locs hP hS
  unfold f_X5_ofLine at hf
  refine lv_aload_n hx hb dX5_ofLine_0 rfl (lv_at hl 0 rfl) ?_
  refine lv_iload_n hx hb dX5_ofLine_1 rfl (lv_at hl 1 rfl) ?_
  obtain ⟨x_1, hx_1, hf⟩ := Option.bind_eq_some_iff.mp hf
  refine q_vV (As := [.int x0]) (rest := []) ⟨hx, hb, hml, hown, hts⟩ (c_X5_needLine l dC dI cI cJ a F B K N I T x0 x_1 hx_1) (cwV 1 hts gX5_ofLine_X5_needLine rfl rfl rfl (by decide +kernel) ⟨Nat.le_of_ble_eq_true rfl, Nat.le_of_ble_eq_true rfl⟩) hK hn hP (ci := 5) rfl rfl rfl hl.1 rfl (Nat.le_of_ble_eq_true rfl) dX5_ofLine_2 ⟨Nat.zero_le _, Nat.zero_le _⟩ ?_
  refine lv_iload_n hx hb dX5_ofLine_5 rfl (lv_at hl 2 rfl) ?_
  refine lv_if_lt (tgt := 15) hx hb dX5_ofLine_6 (by decide) (fun c_2 => ?_) (fun c_2 => ?_)
  · replace hf := (if_pos c_2).symm.trans hf
    cases hf
  · replace hf := (if_neg c_2).symm.trans hf
    refine lv_iload_n hx hb dX5_ofLine_9 rfl (lv_at hl 2 rfl) ?_
    refine lv_bipush (v := 7) hx hb dX5_ofLine_10 (by decide) ?_
    refine lv_icmp_le (tgt := 25) hx hb dX5_ofLine_12 (by decide) (fun c_3 => ?_) (fun c_3 => ?_)
    · replace hf := (if_pos c_3).symm.trans hf
      refine lv_iload_n hx hb dX5_ofLine_25 rfl (lv_at hl 2 rfl) ?_
      refine lv_bipush (v := 6) hx hb dX5_ofLine_26 (by decide) ?_
      refine lv_icmp_lt (tgt := 36) hx hb dX5_ofLine_28 (by decide) (fun c_4 => ?_) (fun c_4 => ?_)
      · replace hf := (if_pos c_4).symm.trans hf
        refine lv_aload_n hx hb dX5_ofLine_36 rfl (lv_at hl 0 rfl) ?_
        refine lv_iload_n hx hb dX5_ofLine_37 rfl (lv_at hl 1 rfl) ?_
        refine lv_iload_n hx hb dX5_ofLine_38 rfl (lv_at hl 2 rfl) ?_
        obtain ⟨x_5, hx_5, hf⟩ := Option.bind_eq_some_iff.mp hf
        refine q_rV (As := [.int x0, .int x1]) (rest := []) ⟨hx, hb, hml, hown, hts⟩ (c_X5_lineFact l dC dI cI cJ a F B K N I T x0 x1 x_5 hx_5) (cwV 2 hts gX5_ofLine_X5_lineFact rfl rfl rfl (by decide +kernel) ⟨Nat.le_of_ble_eq_true rfl, Nat.le_of_ble_eq_true rfl⟩) hK hn hP (ci := 5) rfl rfl rfl hl.1 rfl (Nat.le_of_ble_eq_true rfl) dX5_ofLine_39 ⟨Nat.zero_le _, Nat.zero_le _⟩ ?_
        replace hf := Option.some.inj hf
        subst hf
        exact W.iret (v := x_5) hx hb hr (fun t ht hW => ⟨⟨x_5, (), rfl, rfl, ⟨by rw [ht]; exact hP, va_K.moved hW.alike hK, hD⟩⟩, hS.F ht⟩) hS.2.2 dX5_ofLine_42
      · replace hf := (if_neg c_4).symm.trans hf
        refine lv_aload_n hx hb dX5_ofLine_31 rfl (lv_at hl 0 rfl) ?_
        refine lv_iload_n hx hb dX5_ofLine_32 rfl (lv_at hl 1 rfl) ?_
        obtain ⟨x_6, hx_6, hf⟩ := Option.bind_eq_some_iff.mp hf
        have hFc := va_free (wc := (wSg a cI cJ F B K N I T)) hD hS hA [0, 1, 2, 3, 4, 5, 6, 7, 8, 9, 10, 11, 12, 13, 14, 15, 16, 17] rfl
        refine va_callv (va_runV (As := [.int x0]) (rest := []) ⟨hx, hb, hml, hown, hts⟩ (c_X5_makePlan l dC dI cI cJ a H.size F B K N I T x0 x_6 hx_6) (cwV 1 hts gX5_ofLine_X5_makePlan rfl rfl rfl (by decide +kernel) ⟨Nat.le_of_ble_eq_true rfl, Nat.le_of_ble_eq_true rfl⟩) ⟨q_Wblind, va_recv hK hP (ci := 5) (q0 := 0) rfl rfl, q_Wpre hP hK hn hD⟩ rfl rfl hl.1 rfl (lv_room (Nat.le_of_ble_eq_true rfl)) dX5_ofLine_33 ⟨Nat.zero_le _, Nat.zero_le _⟩) hS (fun q _ h => hFc q h) hFc (fun u t H1 locs ht hvm hw hB hz1 hk1 hS => ?_)
        obtain ⟨hP1, hK1, hD1⟩ := hB
        rw [ht] at hP1
        obtain ⟨hP, hD⟩ := va_join (wr := []) (w1 := (wSg a cI cJ F B K x_6 I T)) hP hD [0, 1, 2, 3, 4, 5, 6, 7, 8, 9, 10, 11, 12, 13, 14, 15, 16, 17] [] rfl rfl (by decide) (by decide) hk1 hFc hP1 hD1
        generalize H1 = H at hP hS ⊢
        have hP : va_P (dC, dI) vwCl (wSg a cI cJ F B K x_6 I T) H := hP
        have hD : va_D A (wSg a cI cJ F B K x_6 I T) := hD
        refine lv_aload_n hx hb dX5_ofLine_36 rfl (lv_at hl 0 rfl) ?_
        refine lv_iload_n hx hb dX5_ofLine_37 rfl (lv_at hl 1 rfl) ?_
        refine lv_iload_n hx hb dX5_ofLine_38 rfl (lv_at hl 2 rfl) ?_
        obtain ⟨x_7, hx_7, hf⟩ := Option.bind_eq_some_iff.mp hf
        refine q_rV (As := [.int x0, .int x1]) (rest := []) ⟨hx, hb, hml, hown, hts⟩ (c_X5_lineFact l dC dI cI cJ a F B K x_6 I T x0 x1 x_7 hx_7) (cwV 2 hts gX5_ofLine_X5_lineFact rfl rfl rfl (by decide +kernel) ⟨Nat.le_of_ble_eq_true rfl, Nat.le_of_ble_eq_true rfl⟩) hK hn hP (ci := 5) rfl rfl rfl hl.1 rfl (Nat.le_of_ble_eq_true rfl) dX5_ofLine_39 ⟨Nat.zero_le _, Nat.zero_le _⟩ ?_
        replace hf := Option.some.inj hf
        subst hf
        exact W.iret (v := x_7) hx hb hr (fun t ht hW => ⟨⟨x_7, (), rfl, rfl, ⟨by rw [ht]; exact hP, va_K.moved hW.alike hK, hD⟩⟩, hS.F ht⟩) hS.2.2 dX5_ofLine_42
    · replace hf := (if_neg c_3).symm.trans hf
      cases hf
def f_X5_step (F : q_Fl) (B : q_Bd) (K : q_Bk) (N : q_Pl) (x0 : Int32) (x1 : Int32) : Option (Int32 × q_Pl) := ((f_X5_needLine K x0).bind fun x_1 => (if 0 ≤ x1 then ((f_X5_makePlan F B K N x0).bind fun x_3 => some ((f_X2_setOf x_3 x1), x_3)) else none))
set_option maxHeartbeats 4000000 in
set_option maxRecDepth 100000 in
theorem c_X5_step (l : Launch) (dC : Nat → ClassId) (dI : Nat → Nat → Nat) (cI cJ : ClassId) (a : Nat → Nat) (sz : Nat) (F : q_Fl) (B : q_Bd) (K : q_Bk) (N : q_Pl) (I : q_Wi) (T : q_Rt) (x0 : Int32) (x1 : Int32) (r0 : Int32 × q_Pl) (hf : f_X5_step F B K N x0 x1 = some r0) : Met l yX5_step wsX5_step ({ frames := 4, cells := 0, slots := 0, locals := 94 } : Room) (va_Pc [.ref (a 0), .int x0, .int x1] (q_W (dC, dI) vwCl (wSg a cI cJ F B K N I T) (q_ty cI cJ) sz)) (va_Qi (S := Unit) (fun r_ _ => r_ = r0.1) (fun _ => q_E (dC, dI) vwCl (wSg a cI cJ F B K r0.2 I T) (q_ty cI cJ) (va_A (wSg a cI cJ F B K N I T) sz)) (va_A (wSg a cI cJ F B K N I T) sz)) 0 0 (va_A (wSg a cI cJ F B K N I T) sz) := by
  refine Met.ofW (cc := cX5_step) (maxL := 3) (ret := (some .int)) (by decide) rfl ?_
  intro p e s m args below meth c s₁ BB hml hv
  obtain ⟨rfl, hsz, hP, hK, hn, hD0⟩ := hv
  have hx := BB.exec
  have hb := BB.bytes
  have hr := BB.returns
  have hts := atoms_spec (ws := wsX5_step) BB.pre
  have hown : s.vm.findClass RX5 = some m.cls := findClass_of_methodNamed BB.named
  have hlocks := BB.notSynchronized
  subst hsz
  have hD := hD0.self (sz := s.heap.size)
  generalize hAe : va_A (wSg a cI cJ F B K N I T) s.heap.size = A at hD ⊢
  have hA : ∀ q : Nat, s.heap.size ≤ q → A q := fun q h => by rw [← hAe]; exact Or.inr h
  have hS : va_S A s.heap s.heap [] := va_S.rf
  have hi5 : ∀ w ∈ u_ws RX5 TX5 9, w ∈ wsX5_step := by decide +kernel
  have hl := lv_entry [.ref (a 0), .int x0, .int x1] (n := 3) (Nat.le_of_ble_eq_true rfl)
  rw [lg_entry_eq]
  generalize (lg_sl [.ref (a 0), .int x0, .int x1] ++ List.replicate (3 - (lg_sl [.ref (a 0), .int x0, .int x1]).length) Slot.unset).toArray = ls at hl ⊢
  have hl : lv_has ls 3 [(0, .ref (a 0)), (1, .int x0), (2, .int x1)] := hl
  obtain ⟨H, hH⟩ : ∃ H, H = s.heap := ⟨_, rfl⟩
  obtain ⟨locs, hlocs⟩ : ∃ x : List Loc, x = [] := ⟨_, rfl⟩
  rw [← hH] at hP
  have hS : va_S A s.heap H locs := by rw [hH, hlocs]; exact hS
  suffices hgoal : ∀ (H : Heap) (locs : List Loc), va_P (dC, dI) vwCl (wSg a cI cJ F B K N I T) H → va_S A s.heap H locs → W p l e (headSpec wsX5_step ({ frames := 4, cells := 0, slots := 0, locals := 94 } : Room)).room s m [.ref (a 0), .int x0, .int x1].toArray below meth c H locs 0 0 (MQ below (va_Qi (S := Unit) (fun r_ _ => r_ = r0.1) (fun _ => q_E (dC, dI) vwCl (wSg a cI cJ F B K r0.2 I T) (q_ty cI cJ) A) A) [.ref (a 0), .int x0, .int x1].toArray s 0 0 A) (F0 m 0 ls []) by
    have h9 := hgoal H locs hP hS
    rw [hH, hlocs] at h9
    exact h9
  clear hP hS hH H hlocs locs
  intro H locs hP hS
  unfold f_X5_step at hf
  refine lv_aload_n hx hb dX5_step_0 rfl (lv_at hl 0 rfl) ?_
  refine lv_iload_n hx hb dX5_step_1 rfl (lv_at hl 1 rfl) ?_
  obtain ⟨x_1, hx_1, hf⟩ := Option.bind_eq_some_iff.mp hf
  refine q_vV (As := [.int x0]) (rest := []) ⟨hx, hb, hml, hown, hts⟩ (c_X5_needLine l dC dI cI cJ a F B K N I T x0 x_1 hx_1) (cwV 1 hts gX5_step_X5_needLine rfl rfl rfl (by decide +kernel) ⟨Nat.le_of_ble_eq_true rfl, Nat.le_of_ble_eq_true rfl⟩) hK hn hP (ci := 5) rfl rfl rfl hl.1 rfl (Nat.le_of_ble_eq_true rfl) dX5_step_2 ⟨Nat.zero_le _, Nat.zero_le _⟩ ?_
  refine lv_iload_n hx hb dX5_step_5 rfl (lv_at hl 2 rfl) ?_
  refine lv_if_ge (tgt := 19) hx hb dX5_step_6 (by decide) (fun c_2 => ?_) (fun c_2 => ?_)
  · replace hf := (if_pos c_2).symm.trans hf
    refine lv_aload_n hx hb dX5_step_19 rfl (lv_at hl 0 rfl) ?_
    refine lv_iload_n hx hb dX5_step_20 rfl (lv_at hl 1 rfl) ?_
    obtain ⟨x_3, hx_3, hf⟩ := Option.bind_eq_some_iff.mp hf
    have hFc := va_free (wc := (wSg a cI cJ F B K N I T)) hD hS hA [0, 1, 2, 3, 4, 5, 6, 7, 8, 9, 10, 11, 12, 13, 14, 15, 16, 17] rfl
    refine va_callv (va_runV (As := [.int x0]) (rest := []) ⟨hx, hb, hml, hown, hts⟩ (c_X5_makePlan l dC dI cI cJ a H.size F B K N I T x0 x_3 hx_3) (cwV 1 hts gX5_step_X5_makePlan rfl rfl rfl (by decide +kernel) ⟨Nat.le_of_ble_eq_true rfl, Nat.le_of_ble_eq_true rfl⟩) ⟨q_Wblind, va_recv hK hP (ci := 5) (q0 := 0) rfl rfl, q_Wpre hP hK hn hD⟩ rfl rfl hl.1 rfl (lv_room (Nat.le_of_ble_eq_true rfl)) dX5_step_21 ⟨Nat.zero_le _, Nat.zero_le _⟩) hS (fun q _ h => hFc q h) hFc (fun u t H1 locs ht hvm hw hB hz1 hk1 hS => ?_)
    obtain ⟨hP1, hK1, hD1⟩ := hB
    rw [ht] at hP1
    obtain ⟨hP, hD⟩ := va_join (wr := []) (w1 := (wSg a cI cJ F B K x_3 I T)) hP hD [0, 1, 2, 3, 4, 5, 6, 7, 8, 9, 10, 11, 12, 13, 14, 15, 16, 17] [] rfl rfl (by decide) (by decide) hk1 hFc hP1 hD1
    generalize H1 = H at hP hS ⊢
    have hP : va_P (dC, dI) vwCl (wSg a cI cJ F B K x_3 I T) H := hP
    have hD : va_D A (wSg a cI cJ F B K x_3 I T) := hD
    refine lv_aload_n hx hb dX5_step_24 rfl (lv_at hl 0 rfl) ?_
    refine va_get (D := (dC, dI)) (ci := 5) (v := .ref (a 10)) (C := RX5) (T := TX5) (N := 9) hx hb hts hi5 hown hK hP 0 rfl rfl 2 (by decide) (hts (.fieldLink RX5 26 RX5 "planner" "LFlapline$Planner;") (by decide +kernel)) (fun _ h9 => h9) rfl dX5_step_25 ?_
    refine lv_iload_n hx hb dX5_step_28 rfl (lv_at hl 2 rfl) ?_
    refine q_rVN (As := [.int x1]) (rest := []) ⟨hx, hb, hml, hown, hts⟩ (c_X2_setOf l dC dI cI cJ (a 10) (a 11) (a 12) (a 13) x_3 x1) ⟨va_cnB 1 hts gX5_step_X2_setOf_n218 rfl rfl rfl (nm_RX5_218 hn) (hts (.initialized RX2) (by decide +kernel)) (by decide +kernel) ⟨Nat.le_of_ble_eq_true rfl, Nat.le_of_ble_eq_true rfl⟩, hts (.instanceMethod yX2_setOf) (by decide +kernel), hts (.selects RX2 yX2_setOf yX2_setOf) (by decide +kernel)⟩ hK hn (hP.sub (ws' := (wPl (a 10) (a 11) (a 12) (a 13) cI x_3)) [10, 11, 12, 13] rfl) (ci := 2) rfl rfl rfl hl.1 rfl (Nat.le_of_ble_eq_true rfl) dX5_step_29 ⟨Nat.zero_le _, Nat.zero_le _⟩ ?_
    replace hf := Option.some.inj hf
    subst hf
    exact W.iret (v := (f_X2_setOf x_3 x1)) hx hb hr (fun t ht hW => ⟨⟨(f_X2_setOf x_3 x1), (), rfl, rfl, ⟨by rw [ht]; exact hP, va_K.moved hW.alike hK, hD⟩⟩, hS.F ht⟩) hS.2.2 dX5_step_32
  · replace hf := (if_neg c_2).symm.trans hf
    cases hf
def fl_X5_planIsTrue_9 (x0 : Int32) (B : q_Bd) (K : q_Bk) (x_1 : q_Pl) : Nat → Int32 → Int32 → Option ((Int32 × q_Pl) ⊕ (Int32 × Int32))
  | 0, _, _ => none
  | nn + 1, i2_9, i3_9 => (if (x_1.2.2.2.2.2.2.2 - 1) ≤ i3_9 then some (.inr (i2_9, i3_9)) else ((f_X2_pictureBehind x_1 (i2_9 ||| (f_X2_setOf x_1 i3_9))).bind fun x_3 => ((f_X5_isWrong B K x_3 x0).bind fun x_4 => (if x_4 = 0 then fl_X5_planIsTrue_9 x0 B K x_1 nn (i2_9 ||| (f_X2_setOf x_1 i3_9)) (i3_9 + 1) else some (.inl (0, x_1))))))
def f_X5_planIsTrue (F : q_Fl) (B : q_Bd) (K : q_Bk) (N : q_Pl) (x0 : Int32) : Option (Int32 × q_Pl) := ((f_X5_makePlan F B K N x0).bind fun x_1 => ((fl_X5_planIsTrue_9 x0 B K x_1 1000 0 0).bind fun z_6 => Sum.elim (fun r_ => some r_) (fun y_7 => some (1, x_1)) z_6))
set_option maxHeartbeats 4000000 in
set_option maxRecDepth 100000 in
theorem c_X5_planIsTrue (l : Launch) (dC : Nat → ClassId) (dI : Nat → Nat → Nat) (cI cJ : ClassId) (a : Nat → Nat) (sz : Nat) (F : q_Fl) (B : q_Bd) (K : q_Bk) (N : q_Pl) (I : q_Wi) (T : q_Rt) (x0 : Int32) (r0 : Int32 × q_Pl) (hf : f_X5_planIsTrue F B K N x0 = some r0) : Met l yX5_planIsTrue wsX5_planIsTrue ({ frames := 4, cells := 0, slots := 0, locals := 94 } : Room) (va_Pc [.ref (a 0), .int x0] (q_W (dC, dI) vwCl (wSg a cI cJ F B K N I T) (q_ty cI cJ) sz)) (va_Qi (S := Unit) (fun r_ _ => r_ = r0.1) (fun _ => q_E (dC, dI) vwCl (wSg a cI cJ F B K r0.2 I T) (q_ty cI cJ) (va_A (wSg a cI cJ F B K N I T) sz)) (va_A (wSg a cI cJ F B K N I T) sz)) 0 0 (va_A (wSg a cI cJ F B K N I T) sz) := by
  refine Met.ofW (cc := cX5_planIsTrue) (maxL := 4) (ret := (some .boolean)) (by decide) rfl ?_
  intro p e s m args below meth c s₁ BB hml hv
  obtain ⟨rfl, hsz, hP, hK, hn, hD0⟩ := hv
  have hx := BB.exec
  have hb := BB.bytes
  have hr := BB.returns
  have hts := atoms_spec (ws := wsX5_planIsTrue) BB.pre
  have hown : s.vm.findClass RX5 = some m.cls := findClass_of_methodNamed BB.named
  have hlocks := BB.notSynchronized
  subst hsz
  have hD := hD0.self (sz := s.heap.size)
  generalize hAe : va_A (wSg a cI cJ F B K N I T) s.heap.size = A at hD ⊢
  have hA : ∀ q : Nat, s.heap.size ≤ q → A q := fun q h => by rw [← hAe]; exact Or.inr h
  have hS : va_S A s.heap s.heap [] := va_S.rf
  have hi2 : ∀ w ∈ u_ws RX2 TX2 8, w ∈ wsX5_planIsTrue := by decide +kernel
  have hi5 : ∀ w ∈ u_ws RX5 TX5 9, w ∈ wsX5_planIsTrue := by decide +kernel
  have hl := lv_entry [.ref (a 0), .int x0] (n := 4) (Nat.le_of_ble_eq_true rfl)
  rw [lg_entry_eq]
  generalize (lg_sl [.ref (a 0), .int x0] ++ List.replicate (4 - (lg_sl [.ref (a 0), .int x0]).length) Slot.unset).toArray = ls at hl ⊢
  have hl : lv_has ls 4 [(0, .ref (a 0)), (1, .int x0)] := hl
  obtain ⟨H, hH⟩ : ∃ H, H = s.heap := ⟨_, rfl⟩
  obtain ⟨locs, hlocs⟩ : ∃ x : List Loc, x = [] := ⟨_, rfl⟩
  rw [← hH] at hP
  have hS : va_S A s.heap H locs := by rw [hH, hlocs]; exact hS
  suffices hgoal : ∀ (H : Heap) (locs : List Loc), va_P (dC, dI) vwCl (wSg a cI cJ F B K N I T) H → va_S A s.heap H locs → W p l e (headSpec wsX5_planIsTrue ({ frames := 4, cells := 0, slots := 0, locals := 94 } : Room)).room s m [.ref (a 0), .int x0].toArray below meth c H locs 0 0 (MQ below (va_Qi (S := Unit) (fun r_ _ => r_ = r0.1) (fun _ => q_E (dC, dI) vwCl (wSg a cI cJ F B K r0.2 I T) (q_ty cI cJ) A) A) [.ref (a 0), .int x0].toArray s 0 0 A) (F0 m 0 ls []) by
    have h9 := hgoal H locs hP hS
    rw [hH, hlocs] at h9
    exact h9
  clear hP hS hH H hlocs locs
  intro H locs hP hS
  unfold f_X5_planIsTrue at hf
  refine lv_aload_n hx hb dX5_planIsTrue_0 rfl (lv_at hl 0 rfl) ?_
  refine lv_iload_n hx hb dX5_planIsTrue_1 rfl (lv_at hl 1 rfl) ?_
  obtain ⟨x_1, hx_1, hf⟩ := Option.bind_eq_some_iff.mp hf
  have hFc := va_free (wc := (wSg a cI cJ F B K N I T)) hD hS hA [0, 1, 2, 3, 4, 5, 6, 7, 8, 9, 10, 11, 12, 13, 14, 15, 16, 17] rfl
  refine va_callv (va_runV (As := [.int x0]) (rest := []) ⟨hx, hb, hml, hown, hts⟩ (c_X5_makePlan l dC dI cI cJ a H.size F B K N I T x0 x_1 hx_1) (cwV 1 hts gX5_planIsTrue_X5_makePlan rfl rfl rfl (by decide +kernel) ⟨Nat.le_of_ble_eq_true rfl, Nat.le_of_ble_eq_true rfl⟩) ⟨q_Wblind, va_recv hK hP (ci := 5) (q0 := 0) rfl rfl, q_Wpre hP hK hn hD⟩ rfl rfl hl.1 rfl (lv_room (Nat.le_of_ble_eq_true rfl)) dX5_planIsTrue_2 ⟨Nat.zero_le _, Nat.zero_le _⟩) hS (fun q _ h => hFc q h) hFc (fun u t H1 locs ht hvm hw hB hz1 hk1 hS => ?_)
  obtain ⟨hP1, hK1, hD1⟩ := hB
  rw [ht] at hP1
  obtain ⟨hP, hD⟩ := va_join (wr := []) (w1 := (wSg a cI cJ F B K x_1 I T)) hP hD [0, 1, 2, 3, 4, 5, 6, 7, 8, 9, 10, 11, 12, 13, 14, 15, 16, 17] [] rfl rfl (by decide) (by decide) hk1 hFc hP1 hD1
  generalize H1 = H at hP hS ⊢
  have hP : va_P (dC, dI) vwCl (wSg a cI cJ F B K x_1 I T) H := hP
  have hD : va_D A (wSg a cI cJ F B K x_1 I T) := hD
  refine lv_iconst (v := 0) hx hb dX5_planIsTrue_5 (by decide) ?_
  refine lv_istore_n (lv' := [(2, .int 0), (0, .ref (a 0)), (1, .int x0)]) hx hb dX5_planIsTrue_6 rfl hl (by decide) rfl (fun ls hl => ?_)
  refine lv_iconst (v := 0) hx hb dX5_planIsTrue_7 (by decide) ?_
  refine lv_istore_n (lv' := [(3, .int 0), (2, .int 0), (0, .ref (a 0)), (1, .int x0)]) hx hb dX5_planIsTrue_8 rfl hl (by decide) rfl (fun ls hl => ?_)
  have L_9 : ∀ (nn : Nat) (i2_9 : Int32) (i3_9 : Int32) (H : Heap) (locs : List Loc) (ls : Array Slot) (z_9 : ((Int32 × q_Pl) ⊕ (Int32 × Int32))), lv_has ls 4 [(3, .int i3_9), (2, .int i2_9), (0, .ref (a 0)), (1, .int x0)] → va_P (dC, dI) vwCl (wSg a cI cJ F B K x_1 I T) H → va_D A (wSg a cI cJ F B K x_1 I T) → va_S A s.heap H locs → fl_X5_planIsTrue_9 x0 B K x_1 nn i2_9 i3_9 = some z_9 → (∀ r_ : Int32 × q_Pl, z_9 = .inl r_ → r_ = r0) → (∀ (y : Int32 × Int32) (H : Heap) (locs : List Loc) (ls : Array Slot), z_9 = .inr y → lv_has ls 4 [(3, .int y.2), (2, .int y.1), (0, .ref (a 0)), (1, .int x0)] → va_P (dC, dI) vwCl (wSg a cI cJ F B K x_1 I T) H → va_D A (wSg a cI cJ F B K x_1 I T) → va_S A s.heap H locs → W p l e (headSpec wsX5_planIsTrue ({ frames := 4, cells := 0, slots := 0, locals := 94 } : Room)).room s m [.ref (a 0), .int x0].toArray below meth c H locs 0 0 (MQ below (va_Qi (S := Unit) (fun r_ _ => r_ = r0.1) (fun _ => q_E (dC, dI) vwCl (wSg a cI cJ F B K r0.2 I T) (q_ty cI cJ) A) A) [.ref (a 0), .int x0].toArray s 0 0 A) (F0 m 57 ls [])) → W p l e (headSpec wsX5_planIsTrue ({ frames := 4, cells := 0, slots := 0, locals := 94 } : Room)).room s m [.ref (a 0), .int x0].toArray below meth c H locs 0 0 (MQ below (va_Qi (S := Unit) (fun r_ _ => r_ = r0.1) (fun _ => q_E (dC, dI) vwCl (wSg a cI cJ F B K r0.2 I T) (q_ty cI cJ) A) A) [.ref (a 0), .int x0].toArray s 0 0 A) (F0 m 9 ls []) := by
    intro nn
    induction nn with
    | zero =>
      intro i2_9 i3_9 H locs ls z_9 hl hP hD hS hf hret_9 hex_9
      rw [fl_X5_planIsTrue_9] at hf
      cases hf
    | succ nn ih =>
      intro i2_9 i3_9 H locs ls z_9 hl hP hD hS hf hret_9 hex_9
      rw [fl_X5_planIsTrue_9] at hf
      refine lv_iload_n hx hb dX5_planIsTrue_9 rfl (lv_at hl 0 rfl) ?_
      refine lv_aload_n hx hb dX5_planIsTrue_10 rfl (lv_at hl 2 rfl) ?_
      refine va_get (D := (dC, dI)) (ci := 5) (v := .ref (a 10)) (C := RX5) (T := TX5) (N := 9) hx hb hts hi5 hown hK hP 0 rfl rfl 2 (by decide) (hts (.fieldLink RX5 26 RX5 "planner" "LFlapline$Planner;") (by decide +kernel)) (fun _ h9 => h9) rfl dX5_planIsTrue_11 ?_
      refine va_getN (D := (dC, dI)) (ci := 2) (v := .int x_1.2.2.2.2.2.2.2) (C := RX2) (T := TX2) (N := 8) hx hb hts hi2 hown hK hP 10 rfl rfl 7 (by decide) (nf_RX5_318 hn) (fun _ h9 => h9) rfl dX5_planIsTrue_14 ?_
      refine lv_iconst (v := 1) hx hb dX5_planIsTrue_17 (by decide) ?_
      refine lv_isub hx hb dX5_planIsTrue_18 ?_
      refine lv_icmp_ge (tgt := 57) hx hb dX5_planIsTrue_19 (by decide) (fun c_2 => ?_) (fun c_2 => ?_)
      · replace hf := (if_pos c_2).symm.trans hf
        exact hex_9 (i2_9, i3_9) H locs ls (Option.some.inj hf).symm (lv_sub hl [0, 1, 2, 3] rfl) hP hD hS
      · replace hf := (if_neg c_2).symm.trans hf
        refine lv_iload_n hx hb dX5_planIsTrue_22 rfl (lv_at hl 1 rfl) ?_
        refine lv_aload_n hx hb dX5_planIsTrue_23 rfl (lv_at hl 2 rfl) ?_
        refine va_get (D := (dC, dI)) (ci := 5) (v := .ref (a 10)) (C := RX5) (T := TX5) (N := 9) hx hb hts hi5 hown hK hP 0 rfl rfl 2 (by decide) (hts (.fieldLink RX5 26 RX5 "planner" "LFlapline$Planner;") (by decide +kernel)) (fun _ h9 => h9) rfl dX5_planIsTrue_24 ?_
        refine lv_iload_n hx hb dX5_planIsTrue_27 rfl (lv_at hl 0 rfl) ?_
        refine q_rVN (As := [.int i3_9]) (rest := [.int i2_9]) ⟨hx, hb, hml, hown, hts⟩ (c_X2_setOf l dC dI cI cJ (a 10) (a 11) (a 12) (a 13) x_1 i3_9) ⟨va_cnB 1 hts gX5_planIsTrue_X2_setOf_n218 rfl rfl rfl (nm_RX5_218 hn) (hts (.initialized RX2) (by decide +kernel)) (by decide +kernel) ⟨Nat.le_of_ble_eq_true rfl, Nat.le_of_ble_eq_true rfl⟩, hts (.instanceMethod yX2_setOf) (by decide +kernel), hts (.selects RX2 yX2_setOf yX2_setOf) (by decide +kernel)⟩ hK hn (hP.sub (ws' := (wPl (a 10) (a 11) (a 12) (a 13) cI x_1)) [10, 11, 12, 13] rfl) (ci := 2) rfl rfl rfl hl.1 rfl (Nat.le_of_ble_eq_true rfl) dX5_planIsTrue_28 ⟨Nat.zero_le _, Nat.zero_le _⟩ ?_
        refine lv_ior hx hb dX5_planIsTrue_31 ?_
        refine lv_istore_n (lv' := [(2, .int (i2_9 ||| (f_X2_setOf x_1 i3_9))), (3, .int i3_9), (0, .ref (a 0)), (1, .int x0)]) hx hb dX5_planIsTrue_32 rfl hl (by decide) rfl (fun ls hl => ?_)
        refine lv_aload_n hx hb dX5_planIsTrue_33 rfl (lv_at hl 2 rfl) ?_
        refine lv_aload_n hx hb dX5_planIsTrue_34 rfl (lv_at hl 2 rfl) ?_
        refine va_get (D := (dC, dI)) (ci := 5) (v := .ref (a 10)) (C := RX5) (T := TX5) (N := 9) hx hb hts hi5 hown hK hP 0 rfl rfl 2 (by decide) (hts (.fieldLink RX5 26 RX5 "planner" "LFlapline$Planner;") (by decide +kernel)) (fun _ h9 => h9) rfl dX5_planIsTrue_35 ?_
        refine lv_iload_n hx hb dX5_planIsTrue_38 rfl (lv_at hl 0 rfl) ?_
        obtain ⟨x_3, hx_3, hf⟩ := Option.bind_eq_some_iff.mp hf
        refine q_rVN (As := [.int (i2_9 ||| (f_X2_setOf x_1 i3_9))]) (rest := [.ref (a 0)]) ⟨hx, hb, hml, hown, hts⟩ (c_X2_pictureBehind l dC dI cI cJ (a 10) (a 11) (a 12) (a 13) x_1 (i2_9 ||| (f_X2_setOf x_1 i3_9)) x_3 hx_3) ⟨va_cnB 1 hts gX5_planIsTrue_X2_pictureBehind_n377 rfl rfl rfl (nm_RX5_377 hn) (hts (.initialized RX2) (by decide +kernel)) (by decide +kernel) ⟨Nat.le_of_ble_eq_true rfl, Nat.le_of_ble_eq_true rfl⟩, hts (.instanceMethod yX2_pictureBehind) (by decide +kernel), hts (.selects RX2 yX2_pictureBehind yX2_pictureBehind) (by decide +kernel)⟩ hK hn (hP.sub (ws' := (wPl (a 10) (a 11) (a 12) (a 13) cI x_1)) [10, 11, 12, 13] rfl) (ci := 2) rfl rfl rfl hl.1 rfl (Nat.le_of_ble_eq_true rfl) dX5_planIsTrue_39 ⟨Nat.zero_le _, Nat.zero_le _⟩ ?_
        refine lv_iload_n hx hb dX5_planIsTrue_42 rfl (lv_at hl 3 rfl) ?_
        obtain ⟨x_4, hx_4, hf⟩ := Option.bind_eq_some_iff.mp hf
        refine q_rV (As := [.long x_3, .int x0]) (rest := []) ⟨hx, hb, hml, hown, hts⟩ (c_X5_isWrong l dC dI cI cJ a F B K x_1 I T x_3 x0 x_4 hx_4) (cwV 2 hts gX5_planIsTrue_X5_isWrong rfl rfl rfl (by decide +kernel) ⟨Nat.le_of_ble_eq_true rfl, Nat.le_of_ble_eq_true rfl⟩) hK hn hP (ci := 5) rfl rfl rfl hl.1 rfl (Nat.le_of_ble_eq_true rfl) dX5_planIsTrue_43 ⟨Nat.zero_le _, Nat.zero_le _⟩ ?_
        refine lv_if_eq (tgt := 51) hx hb dX5_planIsTrue_46 (by decide) (fun c_5 => ?_) (fun c_5 => ?_)
        · replace hf := (if_pos c_5).symm.trans hf
          refine lv_iinc (v := i3_9 + 1) (lv' := [(3, .int (i3_9 + 1)), (2, .int (i2_9 ||| (f_X2_setOf x_1 i3_9))), (0, .ref (a 0)), (1, .int x0)]) hx hb dX5_planIsTrue_51 hl (k := 1) rfl rfl (by decide) rfl (fun ls hl => ?_)
          refine lv_goto (tgt := 9) hx hb dX5_planIsTrue_54 (by decide) ?_
          exact ih (i2_9 ||| (f_X2_setOf x_1 i3_9)) (i3_9 + 1) H locs ls _ (lv_sub hl [0, 1, 2, 3] rfl) hP hD hS hf hret_9 hex_9
        · replace hf := (if_neg c_5).symm.trans hf
          refine lv_iconst (v := 0) hx hb dX5_planIsTrue_49 (by decide) ?_
          replace hf := hret_9 (0, x_1) (Option.some.inj hf).symm
          subst hf
          exact W.zret (v := 0) (ty := .boolean) hx hb hr rfl (fun t ht hW => ⟨⟨0, (), rfl, rfl, ⟨by rw [ht]; exact hP, va_K.moved hW.alike hK, hD⟩⟩, hS.F ht⟩) hS.2.2 dX5_planIsTrue_50
  obtain ⟨z_6, hz_6, hf⟩ := Option.bind_eq_some_iff.mp hf
  refine L_9 1000 0 0 H locs ls z_6 (lv_sub hl [0, 1, 2, 3] rfl) hP hD hS hz_6 (fun r_ hz => by rw [hz] at hf; exact Option.some.inj hf) (fun y_7 H locs ls hz hl hP hD hS => ?_)
  subst hz
  simp only [Sum.elim_inr] at hf
  refine lv_iconst (v := 1) hx hb dX5_planIsTrue_57 (by decide) ?_
  replace hf := Option.some.inj hf
  subst hf
  exact W.zret (v := 1) (ty := .boolean) hx hb hr rfl (fun t ht hW => ⟨⟨1, (), rfl, rfl, ⟨by rw [ht]; exact hP, va_K.moved hW.alike hK, hD⟩⟩, hS.F ht⟩) hS.2.2 dX5_planIsTrue_58
def fl_X5_isSound_2 (F : q_Fl) (B : q_Bd) (K : q_Bk) : Nat → Int32 → q_Pl → Option ((Int32 × q_Pl) ⊕ (Int32 × q_Pl))
  | 0, _, _ => none
  | nn + 1, i1_2, N_2 => (if K.2.2.2.2.2.2 ≤ i1_2 then some (.inr (i1_2, N_2)) else ((f_X5_planIsTrue F B K N_2 i1_2).bind fun x_2 => (if x_2.1 = 0 then some (.inl (0, x_2.2)) else fl_X5_isSound_2 F B K nn (i1_2 + 1) x_2.2)))
def f_X5_isSound (F : q_Fl) (B : q_Bd) (K : q_Bk) (N : q_Pl) (T : q_Rt)  : Option (Int32 × q_Pl) := ((fl_X5_isSound_2 F B K 1000 0 N).bind fun z_4 => Sum.elim (fun r_ => some r_) (fun y_5 => ((f_X0_isTrue B).bind fun x_6 => (if x_6 = 0 then some (0, y_5.2) else (if (f_X3_isTrue T) = 0 then some (0, y_5.2) else some (1, y_5.2))))) z_4)
set_option maxHeartbeats 4000000 in
set_option maxRecDepth 100000 in
theorem c_X5_isSound (l : Launch) (dC : Nat → ClassId) (dI : Nat → Nat → Nat) (cI cJ : ClassId) (a : Nat → Nat) (sz : Nat) (F : q_Fl) (B : q_Bd) (K : q_Bk) (N : q_Pl) (I : q_Wi) (T : q_Rt)  (r0 : Int32 × q_Pl) (hf : f_X5_isSound F B K N T = some r0) : Met l yX5_isSound wsX5_isSound ({ frames := 5, cells := 0, slots := 0, locals := 117 } : Room) (va_Pc [.ref (a 0)] (q_W (dC, dI) vwCl (wSg a cI cJ F B K N I T) (q_ty cI cJ) sz)) (va_Qi (S := Unit) (fun r_ _ => r_ = r0.1) (fun _ => q_E (dC, dI) vwCl (wSg a cI cJ F B K r0.2 I T) (q_ty cI cJ) (va_A (wSg a cI cJ F B K N I T) sz)) (va_A (wSg a cI cJ F B K N I T) sz)) 0 0 (va_A (wSg a cI cJ F B K N I T) sz) := by
  refine Met.ofW (cc := cX5_isSound) (maxL := 2) (ret := (some .boolean)) (by decide) rfl ?_
  intro p e s m args below meth c s₁ BB hml hv
  obtain ⟨rfl, hsz, hP, hK, hn, hD0⟩ := hv
  have hx := BB.exec
  have hb := BB.bytes
  have hr := BB.returns
  have hts := atoms_spec (ws := wsX5_isSound) BB.pre
  have hown : s.vm.findClass RX5 = some m.cls := findClass_of_methodNamed BB.named
  have hlocks := BB.notSynchronized
  subst hsz
  have hD := hD0.self (sz := s.heap.size)
  generalize hAe : va_A (wSg a cI cJ F B K N I T) s.heap.size = A at hD ⊢
  have hA : ∀ q : Nat, s.heap.size ≤ q → A q := fun q h => by rw [← hAe]; exact Or.inr h
  have hS : va_S A s.heap s.heap [] := va_S.rf
  have hi1 : ∀ w ∈ u_ws RX1 TX1 7, w ∈ wsX5_isSound := by decide +kernel
  have hi5 : ∀ w ∈ u_ws RX5 TX5 9, w ∈ wsX5_isSound := by decide +kernel
  have hl := lv_entry [.ref (a 0)] (n := 2) (Nat.le_of_ble_eq_true rfl)
  rw [lg_entry_eq]
  generalize (lg_sl [.ref (a 0)] ++ List.replicate (2 - (lg_sl [.ref (a 0)]).length) Slot.unset).toArray = ls at hl ⊢
  have hl : lv_has ls 2 [(0, .ref (a 0))] := hl
  obtain ⟨H, hH⟩ : ∃ H, H = s.heap := ⟨_, rfl⟩
  obtain ⟨locs, hlocs⟩ : ∃ x : List Loc, x = [] := ⟨_, rfl⟩
  rw [← hH] at hP
  have hS : va_S A s.heap H locs := by rw [hH, hlocs]; exact hS
  suffices hgoal : ∀ (H : Heap) (locs : List Loc), va_P (dC, dI) vwCl (wSg a cI cJ F B K N I T) H → va_S A s.heap H locs → W p l e (headSpec wsX5_isSound ({ frames := 5, cells := 0, slots := 0, locals := 117 } : Room)).room s m [.ref (a 0)].toArray below meth c H locs 0 0 (MQ below (va_Qi (S := Unit) (fun r_ _ => r_ = r0.1) (fun _ => q_E (dC, dI) vwCl (wSg a cI cJ F B K r0.2 I T) (q_ty cI cJ) A) A) [.ref (a 0)].toArray s 0 0 A) (F0 m 0 ls []) by
    have h9 := hgoal H locs hP hS
    rw [hH, hlocs] at h9
    exact h9
  clear hP hS hH H hlocs locs
  intro H locs hP hS
  unfold f_X5_isSound at hf
  refine lv_iconst (v := 0) hx hb dX5_isSound_0 (by decide) ?_
  refine lv_istore_n (lv' := [(1, .int 0), (0, .ref (a 0))]) hx hb dX5_isSound_1 rfl hl (by decide) rfl (fun ls hl => ?_)
  have L_2 : ∀ (nn : Nat) (i1_2 : Int32) (N_2 : q_Pl) (H : Heap) (locs : List Loc) (ls : Array Slot) (z_2 : ((Int32 × q_Pl) ⊕ (Int32 × q_Pl))), lv_has ls 2 [(1, .int i1_2), (0, .ref (a 0))] → va_P (dC, dI) vwCl (wSg a cI cJ F B K N_2 I T) H → va_D A (wSg a cI cJ F B K N_2 I T) → va_S A s.heap H locs → fl_X5_isSound_2 F B K nn i1_2 N_2 = some z_2 → (∀ r_ : Int32 × q_Pl, z_2 = .inl r_ → r_ = r0) → (∀ (y : Int32 × q_Pl) (H : Heap) (locs : List Loc) (ls : Array Slot), z_2 = .inr y → lv_has ls 2 [(1, .int y.1), (0, .ref (a 0))] → va_P (dC, dI) vwCl (wSg a cI cJ F B K y.2 I T) H → va_D A (wSg a cI cJ F B K y.2 I T) → va_S A s.heap H locs → W p l e (headSpec wsX5_isSound ({ frames := 5, cells := 0, slots := 0, locals := 117 } : Room)).room s m [.ref (a 0)].toArray below meth c H locs 0 0 (MQ below (va_Qi (S := Unit) (fun r_ _ => r_ = r0.1) (fun _ => q_E (dC, dI) vwCl (wSg a cI cJ F B K r0.2 I T) (q_ty cI cJ) A) A) [.ref (a 0)].toArray s 0 0 A) (F0 m 29 ls [])) → W p l e (headSpec wsX5_isSound ({ frames := 5, cells := 0, slots := 0, locals := 117 } : Room)).room s m [.ref (a 0)].toArray below meth c H locs 0 0 (MQ below (va_Qi (S := Unit) (fun r_ _ => r_ = r0.1) (fun _ => q_E (dC, dI) vwCl (wSg a cI cJ F B K r0.2 I T) (q_ty cI cJ) A) A) [.ref (a 0)].toArray s 0 0 A) (F0 m 2 ls []) := by
    intro nn
    induction nn with
    | zero =>
      intro i1_2 N_2 H locs ls z_2 hl hP hD hS hf hret_2 hex_2
      rw [fl_X5_isSound_2] at hf
      cases hf
    | succ nn ih =>
      intro i1_2 N_2 H locs ls z_2 hl hP hD hS hf hret_2 hex_2
      rw [fl_X5_isSound_2] at hf
      refine lv_iload_n hx hb dX5_isSound_2 rfl (lv_at hl 0 rfl) ?_
      refine lv_aload_n hx hb dX5_isSound_3 rfl (lv_at hl 1 rfl) ?_
      refine va_get (D := (dC, dI)) (ci := 5) (v := .ref (a 4)) (C := RX5) (T := TX5) (N := 9) hx hb hts hi5 hown hK hP 0 rfl rfl 1 (by decide) (hts (.fieldLink RX5 19 RX5 "book" "LFlapline$Book;") (by decide +kernel)) (fun _ h9 => h9) rfl dX5_isSound_4 ?_
      refine va_getN (D := (dC, dI)) (ci := 1) (v := .int K.2.2.2.2.2.2) (C := RX1) (T := TX1) (N := 7) hx hb hts hi1 hown hK hP 4 rfl rfl 6 (by decide) (nf_RX5_95 hn) (fun _ h9 => h9) rfl dX5_isSound_7 ?_
      refine lv_icmp_ge (tgt := 29) hx hb dX5_isSound_10 (by decide) (fun c_1 => ?_) (fun c_1 => ?_)
      · replace hf := (if_pos c_1).symm.trans hf
        exact hex_2 (i1_2, N_2) H locs ls (Option.some.inj hf).symm (lv_sub hl [0, 1] rfl) hP hD hS
      · replace hf := (if_neg c_1).symm.trans hf
        refine lv_aload_n hx hb dX5_isSound_13 rfl (lv_at hl 1 rfl) ?_
        refine lv_iload_n hx hb dX5_isSound_14 rfl (lv_at hl 0 rfl) ?_
        obtain ⟨x_2, hx_2, hf⟩ := Option.bind_eq_some_iff.mp hf
        have hFc := va_free (wc := (wSg a cI cJ F B K N_2 I T)) hD hS hA [0, 1, 2, 3, 4, 5, 6, 7, 8, 9, 10, 11, 12, 13, 14, 15, 16, 17] rfl
        refine va_calli (va_runV (As := [.int i1_2]) (rest := []) ⟨hx, hb, hml, hown, hts⟩ (c_X5_planIsTrue l dC dI cI cJ a H.size F B K N_2 I T i1_2 x_2 hx_2) (cwV 1 hts gX5_isSound_X5_planIsTrue rfl rfl rfl (by decide +kernel) ⟨Nat.le_of_ble_eq_true rfl, Nat.le_of_ble_eq_true rfl⟩) ⟨q_Wblind, va_recv hK hP (ci := 5) (q0 := 0) rfl rfl, q_Wpre hP hK hn hD⟩ rfl rfl hl.1 rfl (lv_room (Nat.le_of_ble_eq_true rfl)) dX5_isSound_15 ⟨Nat.zero_le _, Nat.zero_le _⟩) hS (fun q _ h => hFc q h) hFc (fun r_9 u t H1 locs ht hvm hw hB hz1 hk1 hS => ?_)
        subst hw
        obtain ⟨hP1, hK1, hD1⟩ := hB
        rw [ht] at hP1
        obtain ⟨hP, hD⟩ := va_join (wr := []) (w1 := (wSg a cI cJ F B K x_2.2 I T)) hP hD [0, 1, 2, 3, 4, 5, 6, 7, 8, 9, 10, 11, 12, 13, 14, 15, 16, 17] [] rfl rfl (by decide) (by decide) hk1 hFc hP1 hD1
        generalize H1 = H at hP hS ⊢
        have hP : va_P (dC, dI) vwCl (wSg a cI cJ F B K x_2.2 I T) H := hP
        have hD : va_D A (wSg a cI cJ F B K x_2.2 I T) := hD
        refine lv_if_ne (tgt := 23) hx hb dX5_isSound_18 (by decide) (fun c_3 => ?_) (fun c_3 => ?_)
        · replace hf := (if_neg c_3).symm.trans hf
          refine lv_iinc (v := i1_2 + 1) (lv' := [(1, .int (i1_2 + 1)), (0, .ref (a 0))]) hx hb dX5_isSound_23 hl (k := 0) rfl rfl (by decide) rfl (fun ls hl => ?_)
          refine lv_goto (tgt := 2) hx hb dX5_isSound_26 (by decide) ?_
          exact ih (i1_2 + 1) x_2.2 H locs ls _ (lv_sub hl [0, 1] rfl) hP hD hS hf hret_2 hex_2
        · replace hf := (if_pos c_3).symm.trans hf
          refine lv_iconst (v := 0) hx hb dX5_isSound_21 (by decide) ?_
          replace hf := hret_2 (0, x_2.2) (Option.some.inj hf).symm
          subst hf
          exact W.zret (v := 0) (ty := .boolean) hx hb hr rfl (fun t ht hW => ⟨⟨0, (), rfl, rfl, ⟨by rw [ht]; exact hP, va_K.moved hW.alike hK, hD⟩⟩, hS.F ht⟩) hS.2.2 dX5_isSound_22
  obtain ⟨z_4, hz_4, hf⟩ := Option.bind_eq_some_iff.mp hf
  refine L_2 1000 0 N H locs ls z_4 (lv_sub hl [0, 1] rfl) hP hD hS hz_4 (fun r_ hz => by rw [hz] at hf; exact Option.some.inj hf) (fun y_5 H locs ls hz hl hP hD hS => ?_)
  subst hz
  simp only [Sum.elim_inr] at hf
  refine lv_aload_n hx hb dX5_isSound_29 rfl (lv_at hl 1 rfl) ?_
  refine va_get (D := (dC, dI)) (ci := 5) (v := .ref (a 1)) (C := RX5) (T := TX5) (N := 9) hx hb hts hi5 hown hK hP 0 rfl rfl 0 (by decide) (hts (.fieldLink RX5 10 RX5 "board" "LFlapline$Board;") (by decide +kernel)) (fun _ h9 => h9) rfl dX5_isSound_30 ?_
  obtain ⟨x_6, hx_6, hf⟩ := Option.bind_eq_some_iff.mp hf
  refine q_rVN (As := []) (rest := []) ⟨hx, hb, hml, hown, hts⟩ (c_X0_isTrue l dC dI cI cJ (a 1) (a 2) (a 3) B x_6 hx_6) ⟨va_cnB 0 hts gX5_isSound_X0_isTrue_n267 rfl rfl rfl (nm_RX5_267 hn) (hts (.initialized RX0) (by decide +kernel)) (by decide +kernel) ⟨Nat.le_of_ble_eq_true rfl, Nat.le_of_ble_eq_true rfl⟩, hts (.instanceMethod yX0_isTrue) (by decide +kernel), hts (.selects RX0 yX0_isTrue yX0_isTrue) (by decide +kernel)⟩ hK hn (hP.sub (ws' := (wBd (a 1) (a 2) (a 3) cI B)) [1, 2, 3] rfl) (ci := 0) rfl rfl rfl hl.1 rfl (Nat.le_of_ble_eq_true rfl) dX5_isSound_33 ⟨Nat.zero_le _, Nat.zero_le _⟩ ?_
  refine lv_if_eq (tgt := 53) hx hb dX5_isSound_36 (by decide) (fun c_7 => ?_) (fun c_7 => ?_)
  · replace hf := (if_pos c_7).symm.trans hf
    refine lv_iconst (v := 0) hx hb dX5_isSound_53 (by decide) ?_
    replace hf := Option.some.inj hf
    subst hf
    exact W.zret (v := 0) (ty := .boolean) hx hb hr rfl (fun t ht hW => ⟨⟨0, (), rfl, rfl, ⟨by rw [ht]; exact hP, va_K.moved hW.alike hK, hD⟩⟩, hS.F ht⟩) hS.2.2 dX5_isSound_54
  · replace hf := (if_neg c_7).symm.trans hf
    refine lv_aload_n hx hb dX5_isSound_39 rfl (lv_at hl 1 rfl) ?_
    refine va_get (D := (dC, dI)) (ci := 5) (v := .ref (a 15)) (C := RX5) (T := TX5) (N := 9) hx hb hts hi5 hown hK hP 0 rfl rfl 4 (by decide) (hts (.fieldLink RX5 40 RX5 "route" "LFlapline$Route;") (by decide +kernel)) (fun _ h9 => h9) rfl dX5_isSound_40 ?_
    refine q_rVN (As := []) (rest := []) ⟨hx, hb, hml, hown, hts⟩ (c_X3_isTrue l dC dI cI cJ (a 15) (a 16) (a 17) T) ⟨va_cnB 0 hts gX5_isSound_X3_isTrue_n271 rfl rfl rfl (nm_RX5_271 hn) (hts (.initialized RX3) (by decide +kernel)) (by decide +kernel) ⟨Nat.le_of_ble_eq_true rfl, Nat.le_of_ble_eq_true rfl⟩, hts (.instanceMethod yX3_isTrue) (by decide +kernel), hts (.selects RX3 yX3_isTrue yX3_isTrue) (by decide +kernel)⟩ hK hn (hP.sub (ws' := (wRt (a 15) (a 16) (a 17) cI T)) [15, 16, 17] rfl) (ci := 3) rfl rfl rfl hl.1 rfl (Nat.le_of_ble_eq_true rfl) dX5_isSound_43 ⟨Nat.zero_le _, Nat.zero_le _⟩ ?_
    refine lv_if_eq (tgt := 53) hx hb dX5_isSound_46 (by decide) (fun c_8 => ?_) (fun c_8 => ?_)
    · replace hf := (if_pos c_8).symm.trans hf
      refine lv_iconst (v := 0) hx hb dX5_isSound_53 (by decide) ?_
      replace hf := Option.some.inj hf
      subst hf
      exact W.zret (v := 0) (ty := .boolean) hx hb hr rfl (fun t ht hW => ⟨⟨0, (), rfl, rfl, ⟨by rw [ht]; exact hP, va_K.moved hW.alike hK, hD⟩⟩, hS.F ht⟩) hS.2.2 dX5_isSound_54
    · replace hf := (if_neg c_8).symm.trans hf
      refine lv_iconst (v := 1) hx hb dX5_isSound_49 (by decide) ?_
      refine lv_goto (tgt := 54) hx hb dX5_isSound_50 (by decide) ?_
      replace hf := Option.some.inj hf
      subst hf
      exact W.zret (v := 1) (ty := .boolean) hx hb hr rfl (fun t ht hW => ⟨⟨1, (), rfl, rfl, ⟨by rw [ht]; exact hP, va_K.moved hW.alike hK, hD⟩⟩, hS.F ht⟩) hS.2.2 dX5_isSound_54
def fl_X5_addLineTo_11 (x1 : Int32) (B : q_Bd) (K : q_Bk) (x_1 : q_Pl) : Nat → Int64 → Int32 → Option (Int64 × Int32)
  | 0, _, _ => none
  | nn + 1, i4_11, i6_11 => (if 7 < i6_11 then some (i4_11, i6_11) else ((f_X5_lineFact B K x_1 x1 i6_11).bind fun x_3 => fl_X5_addLineTo_11 x1 B K x_1 nn ((i4_11 * 31) + x_3.toInt64) (i6_11 + 1)))
def f_X5_addLineTo (F : q_Fl) (B : q_Bd) (K : q_Bk) (N : q_Pl) (x0 : Int64) (x1 : Int32) : Option (Int64 × q_Pl) := ((f_X5_makePlan F B K N x1).bind fun x_1 => ((fl_X5_addLineTo_11 x1 B K x_1 1000 x0 1).bind fun z_4 => ((f_X5_readOfGoal F B K x1).bind fun x_5 => some ((((((z_4.1 * 31) + ((f_X2_setOf x_1 0).toInt64)) * 31) + ((f_X2_setOf x_1 1).toInt64)) * 31) + x_5.toInt64, x_1))))
set_option maxHeartbeats 4000000 in
set_option maxRecDepth 100000 in
theorem c_X5_addLineTo (l : Launch) (dC : Nat → ClassId) (dI : Nat → Nat → Nat) (cI cJ : ClassId) (a : Nat → Nat) (sz : Nat) (F : q_Fl) (B : q_Bd) (K : q_Bk) (N : q_Pl) (I : q_Wi) (T : q_Rt) (x0 : Int64) (x1 : Int32) (r0 : Int64 × q_Pl) (hf : f_X5_addLineTo F B K N x0 x1 = some r0) : Met l yX5_addLineTo wsX5_addLineTo ({ frames := 5, cells := 0, slots := 0, locals := 113 } : Room) (va_Pc [.ref (a 0), .long x0, .int x1] (q_W (dC, dI) vwCl (wSg a cI cJ F B K N I T) (q_ty cI cJ) sz)) (va_Ql (S := Unit) (fun r_ _ => r_ = r0.1) (fun _ => q_E (dC, dI) vwCl (wSg a cI cJ F B K r0.2 I T) (q_ty cI cJ) (va_A (wSg a cI cJ F B K N I T) sz)) (va_A (wSg a cI cJ F B K N I T) sz)) 0 0 (va_A (wSg a cI cJ F B K N I T) sz) := by
  refine Met.ofW (cc := cX5_addLineTo) (maxL := 7) (ret := (some .long)) (by decide) rfl ?_
  intro p e s m args below meth c s₁ BB hml hv
  obtain ⟨rfl, hsz, hP, hK, hn, hD0⟩ := hv
  have hx := BB.exec
  have hb := BB.bytes
  have hr := BB.returns
  have hts := atoms_spec (ws := wsX5_addLineTo) BB.pre
  have hown : s.vm.findClass RX5 = some m.cls := findClass_of_methodNamed BB.named
  have hlocks := BB.notSynchronized
  subst hsz
  have hD := hD0.self (sz := s.heap.size)
  generalize hAe : va_A (wSg a cI cJ F B K N I T) s.heap.size = A at hD ⊢
  have hA : ∀ q : Nat, s.heap.size ≤ q → A q := fun q h => by rw [← hAe]; exact Or.inr h
  have hS : va_S A s.heap s.heap [] := va_S.rf
  have hi5 : ∀ w ∈ u_ws RX5 TX5 9, w ∈ wsX5_addLineTo := by decide +kernel
  have hl := lv_entry [.ref (a 0), .long x0, .int x1] (n := 7) (Nat.le_of_ble_eq_true rfl)
  rw [lg_entry_eq]
  generalize (lg_sl [.ref (a 0), .long x0, .int x1] ++ List.replicate (7 - (lg_sl [.ref (a 0), .long x0, .int x1]).length) Slot.unset).toArray = ls at hl ⊢
  have hl : lv_has ls 7 [(0, .ref (a 0)), (1, .long x0), (3, .int x1)] := hl
  obtain ⟨H, hH⟩ : ∃ H, H = s.heap := ⟨_, rfl⟩
  obtain ⟨locs, hlocs⟩ : ∃ x : List Loc, x = [] := ⟨_, rfl⟩
  rw [← hH] at hP
  have hS : va_S A s.heap H locs := by rw [hH, hlocs]; exact hS
  suffices hgoal : ∀ (H : Heap) (locs : List Loc), va_P (dC, dI) vwCl (wSg a cI cJ F B K N I T) H → va_S A s.heap H locs → W p l e (headSpec wsX5_addLineTo ({ frames := 5, cells := 0, slots := 0, locals := 113 } : Room)).room s m [.ref (a 0), .long x0, .int x1].toArray below meth c H locs 0 0 (MQ below (va_Ql (S := Unit) (fun r_ _ => r_ = r0.1) (fun _ => q_E (dC, dI) vwCl (wSg a cI cJ F B K r0.2 I T) (q_ty cI cJ) A) A) [.ref (a 0), .long x0, .int x1].toArray s 0 0 A) (F0 m 0 ls []) by
    have h9 := hgoal H locs hP hS
    rw [hH, hlocs] at h9
    exact h9
  clear hP hS hH H hlocs locs
  intro H locs hP hS
  unfold f_X5_addLineTo at hf
  refine lv_lload_n hx hb dX5_addLineTo_0 rfl (lv_at hl 1 rfl) ?_
  refine lv_lstore (lv' := [(4, .long x0), (0, .ref (a 0)), (1, .long x0), (3, .int x1)]) hx hb dX5_addLineTo_1 hl (by decide) rfl (fun ls hl => ?_)
  refine lv_aload_n hx hb dX5_addLineTo_3 rfl (lv_at hl 1 rfl) ?_
  refine lv_iload_n hx hb dX5_addLineTo_4 rfl (lv_at hl 3 rfl) ?_
  obtain ⟨x_1, hx_1, hf⟩ := Option.bind_eq_some_iff.mp hf
  have hFc := va_free (wc := (wSg a cI cJ F B K N I T)) hD hS hA [0, 1, 2, 3, 4, 5, 6, 7, 8, 9, 10, 11, 12, 13, 14, 15, 16, 17] rfl
  refine va_callv (va_runV (As := [.int x1]) (rest := []) ⟨hx, hb, hml, hown, hts⟩ (c_X5_makePlan l dC dI cI cJ a H.size F B K N I T x1 x_1 hx_1) (cwV 1 hts gX5_addLineTo_X5_makePlan rfl rfl rfl (by decide +kernel) ⟨Nat.le_of_ble_eq_true rfl, Nat.le_of_ble_eq_true rfl⟩) ⟨q_Wblind, va_recv hK hP (ci := 5) (q0 := 0) rfl rfl, q_Wpre hP hK hn hD⟩ rfl rfl hl.1 rfl (lv_room (Nat.le_of_ble_eq_true rfl)) dX5_addLineTo_5 ⟨Nat.zero_le _, Nat.zero_le _⟩) hS (fun q _ h => hFc q h) hFc (fun u t H1 locs ht hvm hw hB hz1 hk1 hS => ?_)
  obtain ⟨hP1, hK1, hD1⟩ := hB
  rw [ht] at hP1
  obtain ⟨hP, hD⟩ := va_join (wr := []) (w1 := (wSg a cI cJ F B K x_1 I T)) hP hD [0, 1, 2, 3, 4, 5, 6, 7, 8, 9, 10, 11, 12, 13, 14, 15, 16, 17] [] rfl rfl (by decide) (by decide) hk1 hFc hP1 hD1
  generalize H1 = H at hP hS ⊢
  have hP : va_P (dC, dI) vwCl (wSg a cI cJ F B K x_1 I T) H := hP
  have hD : va_D A (wSg a cI cJ F B K x_1 I T) := hD
  refine lv_iconst (v := 1) hx hb dX5_addLineTo_8 (by decide) ?_
  refine lv_istore (lv' := [(6, .int 1), (4, .long x0), (0, .ref (a 0)), (1, .long x0), (3, .int x1)]) hx hb dX5_addLineTo_9 hl (by decide) rfl (fun ls hl => ?_)
  have L_11 : ∀ (nn : Nat) (i4_11 : Int64) (i6_11 : Int32) (H : Heap) (locs : List Loc) (ls : Array Slot) (z_11 : (Int64 × Int32)), lv_has ls 7 [(6, .int i6_11), (4, .long i4_11), (0, .ref (a 0)), (1, .long x0), (3, .int x1)] → va_P (dC, dI) vwCl (wSg a cI cJ F B K x_1 I T) H → va_D A (wSg a cI cJ F B K x_1 I T) → va_S A s.heap H locs → fl_X5_addLineTo_11 x1 B K x_1 nn i4_11 i6_11 = some z_11 → (∀ (H : Heap) (locs : List Loc) (ls : Array Slot), lv_has ls 7 [(6, .int z_11.2), (4, .long z_11.1), (0, .ref (a 0)), (1, .long x0), (3, .int x1)] → va_P (dC, dI) vwCl (wSg a cI cJ F B K x_1 I T) H → va_D A (wSg a cI cJ F B K x_1 I T) → va_S A s.heap H locs → W p l e (headSpec wsX5_addLineTo ({ frames := 5, cells := 0, slots := 0, locals := 113 } : Room)).room s m [.ref (a 0), .long x0, .int x1].toArray below meth c H locs 0 0 (MQ below (va_Ql (S := Unit) (fun r_ _ => r_ = r0.1) (fun _ => q_E (dC, dI) vwCl (wSg a cI cJ F B K r0.2 I T) (q_ty cI cJ) A) A) [.ref (a 0), .long x0, .int x1].toArray s 0 0 A) (F0 m 41 ls [])) → W p l e (headSpec wsX5_addLineTo ({ frames := 5, cells := 0, slots := 0, locals := 113 } : Room)).room s m [.ref (a 0), .long x0, .int x1].toArray below meth c H locs 0 0 (MQ below (va_Ql (S := Unit) (fun r_ _ => r_ = r0.1) (fun _ => q_E (dC, dI) vwCl (wSg a cI cJ F B K r0.2 I T) (q_ty cI cJ) A) A) [.ref (a 0), .long x0, .int x1].toArray s 0 0 A) (F0 m 11 ls []) := by
    intro nn
    induction nn with
    | zero =>
      intro i4_11 i6_11 H locs ls z_11 hl hP hD hS hf hex_11
      rw [fl_X5_addLineTo_11] at hf
      cases hf
    | succ nn ih =>
      intro i4_11 i6_11 H locs ls z_11 hl hP hD hS hf hex_11
      rw [fl_X5_addLineTo_11] at hf
      refine lv_iload hx hb dX5_addLineTo_11 (lv_at hl 0 rfl) ?_
      refine lv_bipush (v := 7) hx hb dX5_addLineTo_13 (by decide) ?_
      refine lv_icmp_gt (tgt := 41) hx hb dX5_addLineTo_15 (by decide) (fun c_2 => ?_) (fun c_2 => ?_)
      · replace hf := (if_pos c_2).symm.trans hf
        replace hf := Option.some.inj hf
        subst hf
        exact hex_11 H locs ls (lv_sub hl [0, 1, 2, 3, 4] rfl) hP hD hS
      · replace hf := (if_neg c_2).symm.trans hf
        refine lv_lload hx hb dX5_addLineTo_18 (lv_at hl 1 rfl) ?_
        refine lv_ldc2 hx hb hown (hts (.constantLong RX5 274 31) (by decide +kernel)) dX5_addLineTo_20 ?_
        refine lv_lmul hx hb dX5_addLineTo_23 ?_
        refine lv_aload_n hx hb dX5_addLineTo_24 rfl (lv_at hl 2 rfl) ?_
        refine lv_iload_n hx hb dX5_addLineTo_25 rfl (lv_at hl 4 rfl) ?_
        refine lv_iload hx hb dX5_addLineTo_26 (lv_at hl 0 rfl) ?_
        obtain ⟨x_3, hx_3, hf⟩ := Option.bind_eq_some_iff.mp hf
        refine q_rV (As := [.int x1, .int i6_11]) (rest := [.long (i4_11 * 31)]) ⟨hx, hb, hml, hown, hts⟩ (c_X5_lineFact l dC dI cI cJ a F B K x_1 I T x1 i6_11 x_3 hx_3) (cwV 2 hts gX5_addLineTo_X5_lineFact rfl rfl rfl (by decide +kernel) ⟨Nat.le_of_ble_eq_true rfl, Nat.le_of_ble_eq_true rfl⟩) hK hn hP (ci := 5) rfl rfl rfl hl.1 rfl (Nat.le_of_ble_eq_true rfl) dX5_addLineTo_28 ⟨Nat.zero_le _, Nat.zero_le _⟩ ?_
        refine lv_i2l (v := x_3.toInt64) hx hb dX5_addLineTo_31 rfl ?_
        refine lv_ladd hx hb dX5_addLineTo_32 ?_
        refine lv_lstore (lv' := [(4, .long ((i4_11 * 31) + x_3.toInt64)), (6, .int i6_11), (0, .ref (a 0)), (1, .long x0), (3, .int x1)]) hx hb dX5_addLineTo_33 hl (by decide) rfl (fun ls hl => ?_)
        refine lv_iinc (v := i6_11 + 1) (lv' := [(6, .int (i6_11 + 1)), (4, .long ((i4_11 * 31) + x_3.toInt64)), (0, .ref (a 0)), (1, .long x0), (3, .int x1)]) hx hb dX5_addLineTo_35 hl (k := 1) rfl rfl (by decide) rfl (fun ls hl => ?_)
        refine lv_goto (tgt := 11) hx hb dX5_addLineTo_38 (by decide) ?_
        exact ih ((i4_11 * 31) + x_3.toInt64) (i6_11 + 1) H locs ls _ (lv_sub hl [0, 1, 2, 3, 4] rfl) hP hD hS hf hex_11
  obtain ⟨z_4, hz_4, hf⟩ := Option.bind_eq_some_iff.mp hf
  refine L_11 1000 x0 1 H locs ls z_4 (lv_sub hl [0, 1, 2, 3, 4] rfl) hP hD hS hz_4 (fun H locs ls hl hP hD hS => ?_)
  refine lv_lload hx hb dX5_addLineTo_41 (lv_at hl 1 rfl) ?_
  refine lv_ldc2 hx hb hown (hts (.constantLong RX5 274 31) (by decide +kernel)) dX5_addLineTo_43 ?_
  refine lv_lmul hx hb dX5_addLineTo_46 ?_
  refine lv_aload_n hx hb dX5_addLineTo_47 rfl (lv_at hl 2 rfl) ?_
  refine va_get (D := (dC, dI)) (ci := 5) (v := .ref (a 10)) (C := RX5) (T := TX5) (N := 9) hx hb hts hi5 hown hK hP 0 rfl rfl 2 (by decide) (hts (.fieldLink RX5 26 RX5 "planner" "LFlapline$Planner;") (by decide +kernel)) (fun _ h9 => h9) rfl dX5_addLineTo_48 ?_
  refine lv_iconst (v := 0) hx hb dX5_addLineTo_51 (by decide) ?_
  refine q_rVN (As := [.int 0]) (rest := [.long (z_4.1 * 31)]) ⟨hx, hb, hml, hown, hts⟩ (c_X2_setOf l dC dI cI cJ (a 10) (a 11) (a 12) (a 13) x_1 0) ⟨va_cnB 1 hts gX5_addLineTo_X2_setOf_n218 rfl rfl rfl (nm_RX5_218 hn) (hts (.initialized RX2) (by decide +kernel)) (by decide +kernel) ⟨Nat.le_of_ble_eq_true rfl, Nat.le_of_ble_eq_true rfl⟩, hts (.instanceMethod yX2_setOf) (by decide +kernel), hts (.selects RX2 yX2_setOf yX2_setOf) (by decide +kernel)⟩ hK hn (hP.sub (ws' := (wPl (a 10) (a 11) (a 12) (a 13) cI x_1)) [10, 11, 12, 13] rfl) (ci := 2) rfl rfl rfl hl.1 rfl (Nat.le_of_ble_eq_true rfl) dX5_addLineTo_52 ⟨Nat.zero_le _, Nat.zero_le _⟩ ?_
  refine lv_i2l (v := (f_X2_setOf x_1 0).toInt64) hx hb dX5_addLineTo_55 rfl ?_
  refine lv_ladd hx hb dX5_addLineTo_56 ?_
  refine lv_lstore (lv' := [(4, .long ((z_4.1 * 31) + ((f_X2_setOf x_1 0).toInt64))), (6, .int z_4.2), (0, .ref (a 0)), (1, .long x0), (3, .int x1)]) hx hb dX5_addLineTo_57 hl (by decide) rfl (fun ls hl => ?_)
  refine lv_lload hx hb dX5_addLineTo_59 (lv_at hl 0 rfl) ?_
  refine lv_ldc2 hx hb hown (hts (.constantLong RX5 274 31) (by decide +kernel)) dX5_addLineTo_61 ?_
  refine lv_lmul hx hb dX5_addLineTo_64 ?_
  refine lv_aload_n hx hb dX5_addLineTo_65 rfl (lv_at hl 2 rfl) ?_
  refine va_get (D := (dC, dI)) (ci := 5) (v := .ref (a 10)) (C := RX5) (T := TX5) (N := 9) hx hb hts hi5 hown hK hP 0 rfl rfl 2 (by decide) (hts (.fieldLink RX5 26 RX5 "planner" "LFlapline$Planner;") (by decide +kernel)) (fun _ h9 => h9) rfl dX5_addLineTo_66 ?_
  refine lv_iconst (v := 1) hx hb dX5_addLineTo_69 (by decide) ?_
  refine q_rVN (As := [.int 1]) (rest := [.long (((z_4.1 * 31) + ((f_X2_setOf x_1 0).toInt64)) * 31)]) ⟨hx, hb, hml, hown, hts⟩ (c_X2_setOf l dC dI cI cJ (a 10) (a 11) (a 12) (a 13) x_1 1) ⟨va_cnB 1 hts gX5_addLineTo_X2_setOf_n218 rfl rfl rfl (nm_RX5_218 hn) (hts (.initialized RX2) (by decide +kernel)) (by decide +kernel) ⟨Nat.le_of_ble_eq_true rfl, Nat.le_of_ble_eq_true rfl⟩, hts (.instanceMethod yX2_setOf) (by decide +kernel), hts (.selects RX2 yX2_setOf yX2_setOf) (by decide +kernel)⟩ hK hn (hP.sub (ws' := (wPl (a 10) (a 11) (a 12) (a 13) cI x_1)) [10, 11, 12, 13] rfl) (ci := 2) rfl rfl rfl hl.1 rfl (Nat.le_of_ble_eq_true rfl) dX5_addLineTo_70 ⟨Nat.zero_le _, Nat.zero_le _⟩ ?_
  refine lv_i2l (v := (f_X2_setOf x_1 1).toInt64) hx hb dX5_addLineTo_73 rfl ?_
  refine lv_ladd hx hb dX5_addLineTo_74 ?_
  refine lv_lstore (lv' := [(4, .long ((((z_4.1 * 31) + ((f_X2_setOf x_1 0).toInt64)) * 31) + ((f_X2_setOf x_1 1).toInt64))), (6, .int z_4.2), (0, .ref (a 0)), (1, .long x0), (3, .int x1)]) hx hb dX5_addLineTo_75 hl (by decide) rfl (fun ls hl => ?_)
  refine lv_lload hx hb dX5_addLineTo_77 (lv_at hl 0 rfl) ?_
  refine lv_ldc2 hx hb hown (hts (.constantLong RX5 274 31) (by decide +kernel)) dX5_addLineTo_79 ?_
  refine lv_lmul hx hb dX5_addLineTo_82 ?_
  refine lv_aload_n hx hb dX5_addLineTo_83 rfl (lv_at hl 2 rfl) ?_
  refine lv_iload_n hx hb dX5_addLineTo_84 rfl (lv_at hl 4 rfl) ?_
  obtain ⟨x_5, hx_5, hf⟩ := Option.bind_eq_some_iff.mp hf
  refine q_rV (As := [.int x1]) (rest := [.long (((((z_4.1 * 31) + ((f_X2_setOf x_1 0).toInt64)) * 31) + ((f_X2_setOf x_1 1).toInt64)) * 31)]) ⟨hx, hb, hml, hown, hts⟩ (c_X5_readOfGoal l dC dI cI cJ a F B K x_1 I T x1 x_5 hx_5) (cwV 1 hts gX5_addLineTo_X5_readOfGoal rfl rfl rfl (by decide +kernel) ⟨Nat.le_of_ble_eq_true rfl, Nat.le_of_ble_eq_true rfl⟩) hK hn hP (ci := 5) rfl rfl rfl hl.1 rfl (Nat.le_of_ble_eq_true rfl) dX5_addLineTo_85 ⟨Nat.zero_le _, Nat.zero_le _⟩ ?_
  refine lv_i2l (v := x_5.toInt64) hx hb dX5_addLineTo_88 rfl ?_
  refine lv_ladd hx hb dX5_addLineTo_89 ?_
  replace hf := Option.some.inj hf
  subst hf
  exact W.lret (v := (((((z_4.1 * 31) + ((f_X2_setOf x_1 0).toInt64)) * 31) + ((f_X2_setOf x_1 1).toInt64)) * 31) + x_5.toInt64) hx hb hr (fun t ht hW => ⟨⟨(((((z_4.1 * 31) + ((f_X2_setOf x_1 0).toInt64)) * 31) + ((f_X2_setOf x_1 1).toInt64)) * 31) + x_5.toInt64, (), rfl, rfl, ⟨by rw [ht]; exact hP, va_K.moved hW.alike hK, hD⟩⟩, hS.F ht⟩) hS.2.2 dX5_addLineTo_90
def fl_X5_digest_6 (F : q_Fl) (B : q_Bd) (K : q_Bk) (I : q_Wi) (T : q_Rt) : Nat → Int64 → Int32 → Option (Int64 × Int32)
  | 0, _, _ => none
  | nn + 1, i1_6, i3_6 => (if 17 < i3_6 then some (i1_6, i3_6) else ((f_X5_signFact F B K I T i3_6).bind fun x_2 => fl_X5_digest_6 F B K I T nn ((i1_6 * 31) + x_2.toInt64) (i3_6 + 1)))
def fl_X5_digest_47 (B : q_Bd) (i3_33 : Int32) : Nat → Int64 → Int32 → Option (Int64 × Int32)
  | 0, _, _ => none
  | nn + 1, i1_47, i4_47 => (if 2 < i4_47 then some (i1_47, i4_47) else fl_X5_digest_47 B i3_33 nn ((i1_47 * 31) + ((f_X5_columnFact B i3_33 i4_47).toInt64)) (i4_47 + 1))
def fl_X5_digest_33 (B : q_Bd) : Nat → Int64 → Int32 → Option (Int64 × Int32)
  | 0, _, _ => none
  | nn + 1, i1_33, i3_33 => (if B.2.2.1 ≤ i3_33 then some (i1_33, i3_33) else ((fl_X5_digest_47 B i3_33 1000 i1_33 0).bind fun z_6 => fl_X5_digest_33 B nn z_6.1 (i3_33 + 1)))
def fl_X5_digest_82 (F : q_Fl) (B : q_Bd) (K : q_Bk) : Nat → Int64 → Int32 → q_Pl → Option (Int64 × Int32 × q_Pl)
  | 0, _, _, _ => none
  | nn + 1, i1_82, i3_82, N_82 => (if K.2.2.2.2.2.2 ≤ i3_82 then some (i1_82, i3_82, N_82) else ((f_X5_addLineTo F B K N_82 i1_82 i3_82).bind fun x_9 => fl_X5_digest_82 F B K nn x_9.1 (i3_82 + 1) x_9.2))
def f_X5_digest (F : q_Fl) (B : q_Bd) (K : q_Bk) (N : q_Pl) (I : q_Wi) (T : q_Rt)  : Option (Int64 × q_Pl) := ((fl_X5_digest_6 F B K I T 1000 3769 0).bind fun z_3 => ((fl_X5_digest_33 B 1000 z_3.1 0).bind fun z_7 => ((fl_X5_digest_82 F B K 1000 z_7.1 0 N).bind fun z_10 => ((f_X5_isSound F B K z_10.2.2 T).bind fun x_11 => (if x_11.1 = 0 then some ((z_10.1 * 31) + ((0 : Int32).toInt64), x_11.2) else some ((z_10.1 * 31) + ((1 : Int32).toInt64), x_11.2))))))
set_option maxHeartbeats 4000000 in
set_option maxRecDepth 100000 in
theorem c_X5_digest (l : Launch) (dC : Nat → ClassId) (dI : Nat → Nat → Nat) (cI cJ : ClassId) (a : Nat → Nat) (sz : Nat) (F : q_Fl) (B : q_Bd) (K : q_Bk) (N : q_Pl) (I : q_Wi) (T : q_Rt)  (r0 : Int64 × q_Pl) (hf : f_X5_digest F B K N I T = some r0) : Met l yX5_digest wsX5_digest ({ frames := 6, cells := 0, slots := 0, locals := 139 } : Room) (va_Pc [.ref (a 0)] (q_W (dC, dI) vwCl (wSg a cI cJ F B K N I T) (q_ty cI cJ) sz)) (va_Ql (S := Unit) (fun r_ _ => r_ = r0.1) (fun _ => q_E (dC, dI) vwCl (wSg a cI cJ F B K r0.2 I T) (q_ty cI cJ) (va_A (wSg a cI cJ F B K N I T) sz)) (va_A (wSg a cI cJ F B K N I T) sz)) 0 0 (va_A (wSg a cI cJ F B K N I T) sz) := by
  refine Met.ofW (cc := cX5_digest) (maxL := 5) (ret := (some .long)) (by decide) rfl ?_
  intro p e s m args below meth c s₁ BB hml hv
  obtain ⟨rfl, hsz, hP, hK, hn, hD0⟩ := hv
  have hx := BB.exec
  have hb := BB.bytes
  have hr := BB.returns
  have hts := atoms_spec (ws := wsX5_digest) BB.pre
  have hown : s.vm.findClass RX5 = some m.cls := findClass_of_methodNamed BB.named
  have hlocks := BB.notSynchronized
  subst hsz
  have hD := hD0.self (sz := s.heap.size)
  generalize hAe : va_A (wSg a cI cJ F B K N I T) s.heap.size = A at hD ⊢
  have hA : ∀ q : Nat, s.heap.size ≤ q → A q := fun q h => by rw [← hAe]; exact Or.inr h
  have hS : va_S A s.heap s.heap [] := va_S.rf
  have hi0 : ∀ w ∈ u_ws RX0 TX0 6, w ∈ wsX5_digest := by decide +kernel
  have hi1 : ∀ w ∈ u_ws RX1 TX1 7, w ∈ wsX5_digest := by decide +kernel
  have hi5 : ∀ w ∈ u_ws RX5 TX5 9, w ∈ wsX5_digest := by decide +kernel
  have hl := lv_entry [.ref (a 0)] (n := 5) (Nat.le_of_ble_eq_true rfl)
  rw [lg_entry_eq]
  generalize (lg_sl [.ref (a 0)] ++ List.replicate (5 - (lg_sl [.ref (a 0)]).length) Slot.unset).toArray = ls at hl ⊢
  have hl : lv_has ls 5 [(0, .ref (a 0))] := hl
  obtain ⟨H, hH⟩ : ∃ H, H = s.heap := ⟨_, rfl⟩
  obtain ⟨locs, hlocs⟩ : ∃ x : List Loc, x = [] := ⟨_, rfl⟩
  rw [← hH] at hP
  have hS : va_S A s.heap H locs := by rw [hH, hlocs]; exact hS
  suffices hgoal : ∀ (H : Heap) (locs : List Loc), va_P (dC, dI) vwCl (wSg a cI cJ F B K N I T) H → va_S A s.heap H locs → W p l e (headSpec wsX5_digest ({ frames := 6, cells := 0, slots := 0, locals := 139 } : Room)).room s m [.ref (a 0)].toArray below meth c H locs 0 0 (MQ below (va_Ql (S := Unit) (fun r_ _ => r_ = r0.1) (fun _ => q_E (dC, dI) vwCl (wSg a cI cJ F B K r0.2 I T) (q_ty cI cJ) A) A) [.ref (a 0)].toArray s 0 0 A) (F0 m 0 ls []) by
    have h9 := hgoal H locs hP hS
    rw [hH, hlocs] at h9
    exact h9
  clear hP hS hH H hlocs locs
  intro H locs hP hS
  unfold f_X5_digest at hf
  refine lv_ldc2 hx hb hown (hts (.constantLong RX5 272 3769) (by decide +kernel)) dX5_digest_0 ?_
  refine lv_lstore_n (lv' := [(1, .long 3769), (0, .ref (a 0))]) hx hb dX5_digest_3 rfl hl (by decide) rfl (fun ls hl => ?_)
  refine lv_iconst (v := 0) hx hb dX5_digest_4 (by decide) ?_
  refine lv_istore_n (lv' := [(3, .int 0), (1, .long 3769), (0, .ref (a 0))]) hx hb dX5_digest_5 rfl hl (by decide) rfl (fun ls hl => ?_)
  have L_6 : ∀ (nn : Nat) (i1_6 : Int64) (i3_6 : Int32) (H : Heap) (locs : List Loc) (ls : Array Slot) (z_6 : (Int64 × Int32)), lv_has ls 5 [(3, .int i3_6), (1, .long i1_6), (0, .ref (a 0))] → va_P (dC, dI) vwCl (wSg a cI cJ F B K N I T) H → va_D A (wSg a cI cJ F B K N I T) → va_S A s.heap H locs → fl_X5_digest_6 F B K I T nn i1_6 i3_6 = some z_6 → (∀ (H : Heap) (locs : List Loc) (ls : Array Slot), lv_has ls 5 [(3, .int z_6.2), (1, .long z_6.1), (0, .ref (a 0))] → va_P (dC, dI) vwCl (wSg a cI cJ F B K N I T) H → va_D A (wSg a cI cJ F B K N I T) → va_S A s.heap H locs → W p l e (headSpec wsX5_digest ({ frames := 6, cells := 0, slots := 0, locals := 139 } : Room)).room s m [.ref (a 0)].toArray below meth c H locs 0 0 (MQ below (va_Ql (S := Unit) (fun r_ _ => r_ = r0.1) (fun _ => q_E (dC, dI) vwCl (wSg a cI cJ F B K r0.2 I T) (q_ty cI cJ) A) A) [.ref (a 0)].toArray s 0 0 A) (F0 m 31 ls [])) → W p l e (headSpec wsX5_digest ({ frames := 6, cells := 0, slots := 0, locals := 139 } : Room)).room s m [.ref (a 0)].toArray below meth c H locs 0 0 (MQ below (va_Ql (S := Unit) (fun r_ _ => r_ = r0.1) (fun _ => q_E (dC, dI) vwCl (wSg a cI cJ F B K r0.2 I T) (q_ty cI cJ) A) A) [.ref (a 0)].toArray s 0 0 A) (F0 m 6 ls []) := by
    intro nn
    induction nn with
    | zero =>
      intro i1_6 i3_6 H locs ls z_6 hl hP hD hS hf hex_6
      rw [fl_X5_digest_6] at hf
      cases hf
    | succ nn ih =>
      intro i1_6 i3_6 H locs ls z_6 hl hP hD hS hf hex_6
      rw [fl_X5_digest_6] at hf
      refine lv_iload_n hx hb dX5_digest_6 rfl (lv_at hl 0 rfl) ?_
      refine lv_bipush (v := 17) hx hb dX5_digest_7 (by decide) ?_
      refine lv_icmp_gt (tgt := 31) hx hb dX5_digest_9 (by decide) (fun c_1 => ?_) (fun c_1 => ?_)
      · replace hf := (if_pos c_1).symm.trans hf
        replace hf := Option.some.inj hf
        subst hf
        exact hex_6 H locs ls (lv_sub hl [0, 1, 2] rfl) hP hD hS
      · replace hf := (if_neg c_1).symm.trans hf
        refine lv_lload_n hx hb dX5_digest_12 rfl (lv_at hl 1 rfl) ?_
        refine lv_ldc2 hx hb hown (hts (.constantLong RX5 274 31) (by decide +kernel)) dX5_digest_13 ?_
        refine lv_lmul hx hb dX5_digest_16 ?_
        refine lv_aload_n hx hb dX5_digest_17 rfl (lv_at hl 2 rfl) ?_
        refine lv_iload_n hx hb dX5_digest_18 rfl (lv_at hl 0 rfl) ?_
        obtain ⟨x_2, hx_2, hf⟩ := Option.bind_eq_some_iff.mp hf
        refine q_rV (As := [.int i3_6]) (rest := [.long (i1_6 * 31)]) ⟨hx, hb, hml, hown, hts⟩ (c_X5_signFact l dC dI cI cJ a F B K N I T i3_6 x_2 hx_2) (cwV 1 hts gX5_digest_X5_signFact rfl rfl rfl (by decide +kernel) ⟨Nat.le_of_ble_eq_true rfl, Nat.le_of_ble_eq_true rfl⟩) hK hn hP (ci := 5) rfl rfl rfl hl.1 rfl (Nat.le_of_ble_eq_true rfl) dX5_digest_19 ⟨Nat.zero_le _, Nat.zero_le _⟩ ?_
        refine lv_i2l (v := x_2.toInt64) hx hb dX5_digest_22 rfl ?_
        refine lv_ladd hx hb dX5_digest_23 ?_
        refine lv_lstore_n (lv' := [(1, .long ((i1_6 * 31) + x_2.toInt64)), (3, .int i3_6), (0, .ref (a 0))]) hx hb dX5_digest_24 rfl hl (by decide) rfl (fun ls hl => ?_)
        refine lv_iinc (v := i3_6 + 1) (lv' := [(3, .int (i3_6 + 1)), (1, .long ((i1_6 * 31) + x_2.toInt64)), (0, .ref (a 0))]) hx hb dX5_digest_25 hl (k := 1) rfl rfl (by decide) rfl (fun ls hl => ?_)
        refine lv_goto (tgt := 6) hx hb dX5_digest_28 (by decide) ?_
        exact ih ((i1_6 * 31) + x_2.toInt64) (i3_6 + 1) H locs ls _ (lv_sub hl [0, 1, 2] rfl) hP hD hS hf hex_6
  obtain ⟨z_3, hz_3, hf⟩ := Option.bind_eq_some_iff.mp hf
  refine L_6 1000 3769 0 H locs ls z_3 (lv_sub hl [0, 1, 2] rfl) hP hD hS hz_3 (fun H locs ls hl hP hD hS => ?_)
  refine lv_iconst (v := 0) hx hb dX5_digest_31 (by decide) ?_
  refine lv_istore_n (lv' := [(3, .int 0), (1, .long z_3.1), (0, .ref (a 0))]) hx hb dX5_digest_32 rfl hl (by decide) rfl (fun ls hl => ?_)
  have L_33 : ∀ (nn : Nat) (i1_33 : Int64) (i3_33 : Int32) (H : Heap) (locs : List Loc) (ls : Array Slot) (z_33 : (Int64 × Int32)), lv_has ls 5 [(3, .int i3_33), (1, .long i1_33), (0, .ref (a 0))] → va_P (dC, dI) vwCl (wSg a cI cJ F B K N I T) H → va_D A (wSg a cI cJ F B K N I T) → va_S A s.heap H locs → fl_X5_digest_33 B nn i1_33 i3_33 = some z_33 → (∀ (H : Heap) (locs : List Loc) (ls : Array Slot), lv_has ls 5 [(3, .int z_33.2), (1, .long z_33.1), (0, .ref (a 0))] → va_P (dC, dI) vwCl (wSg a cI cJ F B K N I T) H → va_D A (wSg a cI cJ F B K N I T) → va_S A s.heap H locs → W p l e (headSpec wsX5_digest ({ frames := 6, cells := 0, slots := 0, locals := 139 } : Room)).room s m [.ref (a 0)].toArray below meth c H locs 0 0 (MQ below (va_Ql (S := Unit) (fun r_ _ => r_ = r0.1) (fun _ => q_E (dC, dI) vwCl (wSg a cI cJ F B K r0.2 I T) (q_ty cI cJ) A) A) [.ref (a 0)].toArray s 0 0 A) (F0 m 80 ls [])) → W p l e (headSpec wsX5_digest ({ frames := 6, cells := 0, slots := 0, locals := 139 } : Room)).room s m [.ref (a 0)].toArray below meth c H locs 0 0 (MQ below (va_Ql (S := Unit) (fun r_ _ => r_ = r0.1) (fun _ => q_E (dC, dI) vwCl (wSg a cI cJ F B K r0.2 I T) (q_ty cI cJ) A) A) [.ref (a 0)].toArray s 0 0 A) (F0 m 33 ls []) := by
    intro nn
    induction nn with
    | zero =>
      intro i1_33 i3_33 H locs ls z_33 hl hP hD hS hf hex_33
      rw [fl_X5_digest_33] at hf
      cases hf
    | succ nn ih =>
      intro i1_33 i3_33 H locs ls z_33 hl hP hD hS hf hex_33
      rw [fl_X5_digest_33] at hf
      refine lv_iload_n hx hb dX5_digest_33 rfl (lv_at hl 0 rfl) ?_
      refine lv_aload_n hx hb dX5_digest_34 rfl (lv_at hl 2 rfl) ?_
      refine va_get (D := (dC, dI)) (ci := 5) (v := .ref (a 1)) (C := RX5) (T := TX5) (N := 9) hx hb hts hi5 hown hK hP 0 rfl rfl 0 (by decide) (hts (.fieldLink RX5 10 RX5 "board" "LFlapline$Board;") (by decide +kernel)) (fun _ h9 => h9) rfl dX5_digest_35 ?_
      refine va_getN (D := (dC, dI)) (ci := 0) (v := .int B.2.2.1) (C := RX0) (T := TX0) (N := 6) hx hb hts hi0 hown hK hP 1 rfl rfl 2 (by decide) (nf_RX5_61 hn) (fun _ h9 => h9) rfl dX5_digest_38 ?_
      refine lv_icmp_ge (tgt := 80) hx hb dX5_digest_41 (by decide) (fun c_4 => ?_) (fun c_4 => ?_)
      · replace hf := (if_pos c_4).symm.trans hf
        replace hf := Option.some.inj hf
        subst hf
        exact hex_33 H locs ls (lv_sub hl [0, 1, 2] rfl) hP hD hS
      · replace hf := (if_neg c_4).symm.trans hf
        refine lv_iconst (v := 0) hx hb dX5_digest_44 (by decide) ?_
        refine lv_istore (lv' := [(4, .int 0), (3, .int i3_33), (1, .long i1_33), (0, .ref (a 0))]) hx hb dX5_digest_45 hl (by decide) rfl (fun ls hl => ?_)
        have L_47 : ∀ (nn : Nat) (i1_47 : Int64) (i4_47 : Int32) (H : Heap) (locs : List Loc) (ls : Array Slot) (z_47 : (Int64 × Int32)), lv_has ls 5 [(4, .int i4_47), (3, .int i3_33), (1, .long i1_47), (0, .ref (a 0))] → va_P (dC, dI) vwCl (wSg a cI cJ F B K N I T) H → va_D A (wSg a cI cJ F B K N I T) → va_S A s.heap H locs → fl_X5_digest_47 B i3_33 nn i1_47 i4_47 = some z_47 → (∀ (H : Heap) (locs : List Loc) (ls : Array Slot), lv_has ls 5 [(4, .int z_47.2), (3, .int i3_33), (1, .long z_47.1), (0, .ref (a 0))] → va_P (dC, dI) vwCl (wSg a cI cJ F B K N I T) H → va_D A (wSg a cI cJ F B K N I T) → va_S A s.heap H locs → W p l e (headSpec wsX5_digest ({ frames := 6, cells := 0, slots := 0, locals := 139 } : Room)).room s m [.ref (a 0)].toArray below meth c H locs 0 0 (MQ below (va_Ql (S := Unit) (fun r_ _ => r_ = r0.1) (fun _ => q_E (dC, dI) vwCl (wSg a cI cJ F B K r0.2 I T) (q_ty cI cJ) A) A) [.ref (a 0)].toArray s 0 0 A) (F0 m 74 ls [])) → W p l e (headSpec wsX5_digest ({ frames := 6, cells := 0, slots := 0, locals := 139 } : Room)).room s m [.ref (a 0)].toArray below meth c H locs 0 0 (MQ below (va_Ql (S := Unit) (fun r_ _ => r_ = r0.1) (fun _ => q_E (dC, dI) vwCl (wSg a cI cJ F B K r0.2 I T) (q_ty cI cJ) A) A) [.ref (a 0)].toArray s 0 0 A) (F0 m 47 ls []) := by
          intro nn
          induction nn with
          | zero =>
            intro i1_47 i4_47 H locs ls z_47 hl hP hD hS hf hex_47
            rw [fl_X5_digest_47] at hf
            cases hf
          | succ nn ih =>
            intro i1_47 i4_47 H locs ls z_47 hl hP hD hS hf hex_47
            rw [fl_X5_digest_47] at hf
            refine lv_iload hx hb dX5_digest_47 (lv_at hl 0 rfl) ?_
            refine lv_iconst (v := 2) hx hb dX5_digest_49 (by decide) ?_
            refine lv_icmp_gt (tgt := 74) hx hb dX5_digest_50 (by decide) (fun c_5 => ?_) (fun c_5 => ?_)
            · replace hf := (if_pos c_5).symm.trans hf
              replace hf := Option.some.inj hf
              subst hf
              exact hex_47 H locs ls (lv_sub hl [0, 1, 2, 3] rfl) hP hD hS
            · replace hf := (if_neg c_5).symm.trans hf
              refine lv_lload_n hx hb dX5_digest_53 rfl (lv_at hl 2 rfl) ?_
              refine lv_ldc2 hx hb hown (hts (.constantLong RX5 274 31) (by decide +kernel)) dX5_digest_54 ?_
              refine lv_lmul hx hb dX5_digest_57 ?_
              refine lv_aload_n hx hb dX5_digest_58 rfl (lv_at hl 3 rfl) ?_
              refine lv_iload_n hx hb dX5_digest_59 rfl (lv_at hl 1 rfl) ?_
              refine lv_iload hx hb dX5_digest_60 (lv_at hl 0 rfl) ?_
              refine q_rV (As := [.int i3_33, .int i4_47]) (rest := [.long (i1_47 * 31)]) ⟨hx, hb, hml, hown, hts⟩ (c_X5_columnFact l dC dI cI cJ a F B K N I T i3_33 i4_47) (cwV 2 hts gX5_digest_X5_columnFact rfl rfl rfl (by decide +kernel) ⟨Nat.le_of_ble_eq_true rfl, Nat.le_of_ble_eq_true rfl⟩) hK hn hP (ci := 5) rfl rfl rfl hl.1 rfl (Nat.le_of_ble_eq_true rfl) dX5_digest_62 ⟨Nat.zero_le _, Nat.zero_le _⟩ ?_
              refine lv_i2l (v := (f_X5_columnFact B i3_33 i4_47).toInt64) hx hb dX5_digest_65 rfl ?_
              refine lv_ladd hx hb dX5_digest_66 ?_
              refine lv_lstore_n (lv' := [(1, .long ((i1_47 * 31) + ((f_X5_columnFact B i3_33 i4_47).toInt64))), (4, .int i4_47), (3, .int i3_33), (0, .ref (a 0))]) hx hb dX5_digest_67 rfl hl (by decide) rfl (fun ls hl => ?_)
              refine lv_iinc (v := i4_47 + 1) (lv' := [(4, .int (i4_47 + 1)), (1, .long ((i1_47 * 31) + ((f_X5_columnFact B i3_33 i4_47).toInt64))), (3, .int i3_33), (0, .ref (a 0))]) hx hb dX5_digest_68 hl (k := 1) rfl rfl (by decide) rfl (fun ls hl => ?_)
              refine lv_goto (tgt := 47) hx hb dX5_digest_71 (by decide) ?_
              exact ih ((i1_47 * 31) + ((f_X5_columnFact B i3_33 i4_47).toInt64)) (i4_47 + 1) H locs ls _ (lv_sub hl [0, 2, 1, 3] rfl) hP hD hS hf hex_47
        obtain ⟨z_6, hz_6, hf⟩ := Option.bind_eq_some_iff.mp hf
        refine L_47 1000 i1_33 0 H locs ls z_6 (lv_sub hl [0, 1, 2, 3] rfl) hP hD hS hz_6 (fun H locs ls hl hP hD hS => ?_)
        refine lv_iinc (v := i3_33 + 1) (lv' := [(3, .int (i3_33 + 1)), (4, .int z_6.2), (1, .long z_6.1), (0, .ref (a 0))]) hx hb dX5_digest_74 hl (k := 1) rfl rfl (by decide) rfl (fun ls hl => ?_)
        refine lv_goto (tgt := 33) hx hb dX5_digest_77 (by decide) ?_
        exact ih z_6.1 (i3_33 + 1) H locs ls _ (lv_sub hl [0, 2, 3] rfl) hP hD hS hf hex_33
  obtain ⟨z_7, hz_7, hf⟩ := Option.bind_eq_some_iff.mp hf
  refine L_33 1000 z_3.1 0 H locs ls z_7 (lv_sub hl [0, 1, 2] rfl) hP hD hS hz_7 (fun H locs ls hl hP hD hS => ?_)
  refine lv_iconst (v := 0) hx hb dX5_digest_80 (by decide) ?_
  refine lv_istore_n (lv' := [(3, .int 0), (1, .long z_7.1), (0, .ref (a 0))]) hx hb dX5_digest_81 rfl hl (by decide) rfl (fun ls hl => ?_)
  have L_82 : ∀ (nn : Nat) (i1_82 : Int64) (i3_82 : Int32) (N_82 : q_Pl) (H : Heap) (locs : List Loc) (ls : Array Slot) (z_82 : (Int64 × Int32 × q_Pl)), lv_has ls 5 [(3, .int i3_82), (1, .long i1_82), (0, .ref (a 0))] → va_P (dC, dI) vwCl (wSg a cI cJ F B K N_82 I T) H → va_D A (wSg a cI cJ F B K N_82 I T) → va_S A s.heap H locs → fl_X5_digest_82 F B K nn i1_82 i3_82 N_82 = some z_82 → (∀ (H : Heap) (locs : List Loc) (ls : Array Slot), lv_has ls 5 [(3, .int z_82.2.1), (1, .long z_82.1), (0, .ref (a 0))] → va_P (dC, dI) vwCl (wSg a cI cJ F B K z_82.2.2 I T) H → va_D A (wSg a cI cJ F B K z_82.2.2 I T) → va_S A s.heap H locs → W p l e (headSpec wsX5_digest ({ frames := 6, cells := 0, slots := 0, locals := 139 } : Room)).room s m [.ref (a 0)].toArray below meth c H locs 0 0 (MQ below (va_Ql (S := Unit) (fun r_ _ => r_ = r0.1) (fun _ => q_E (dC, dI) vwCl (wSg a cI cJ F B K r0.2 I T) (q_ty cI cJ) A) A) [.ref (a 0)].toArray s 0 0 A) (F0 m 106 ls [])) → W p l e (headSpec wsX5_digest ({ frames := 6, cells := 0, slots := 0, locals := 139 } : Room)).room s m [.ref (a 0)].toArray below meth c H locs 0 0 (MQ below (va_Ql (S := Unit) (fun r_ _ => r_ = r0.1) (fun _ => q_E (dC, dI) vwCl (wSg a cI cJ F B K r0.2 I T) (q_ty cI cJ) A) A) [.ref (a 0)].toArray s 0 0 A) (F0 m 82 ls []) := by
    intro nn
    induction nn with
    | zero =>
      intro i1_82 i3_82 N_82 H locs ls z_82 hl hP hD hS hf hex_82
      rw [fl_X5_digest_82] at hf
      cases hf
    | succ nn ih =>
      intro i1_82 i3_82 N_82 H locs ls z_82 hl hP hD hS hf hex_82
      rw [fl_X5_digest_82] at hf
      refine lv_iload_n hx hb dX5_digest_82 rfl (lv_at hl 0 rfl) ?_
      refine lv_aload_n hx hb dX5_digest_83 rfl (lv_at hl 2 rfl) ?_
      refine va_get (D := (dC, dI)) (ci := 5) (v := .ref (a 4)) (C := RX5) (T := TX5) (N := 9) hx hb hts hi5 hown hK hP 0 rfl rfl 1 (by decide) (hts (.fieldLink RX5 19 RX5 "book" "LFlapline$Book;") (by decide +kernel)) (fun _ h9 => h9) rfl dX5_digest_84 ?_
      refine va_getN (D := (dC, dI)) (ci := 1) (v := .int K.2.2.2.2.2.2) (C := RX1) (T := TX1) (N := 7) hx hb hts hi1 hown hK hP 4 rfl rfl 6 (by decide) (nf_RX5_95 hn) (fun _ h9 => h9) rfl dX5_digest_87 ?_
      refine lv_icmp_ge (tgt := 106) hx hb dX5_digest_90 (by decide) (fun c_8 => ?_) (fun c_8 => ?_)
      · replace hf := (if_pos c_8).symm.trans hf
        replace hf := Option.some.inj hf
        subst hf
        exact hex_82 H locs ls (lv_sub hl [0, 1, 2] rfl) hP hD hS
      · replace hf := (if_neg c_8).symm.trans hf
        refine lv_aload_n hx hb dX5_digest_93 rfl (lv_at hl 2 rfl) ?_
        refine lv_lload_n hx hb dX5_digest_94 rfl (lv_at hl 1 rfl) ?_
        refine lv_iload_n hx hb dX5_digest_95 rfl (lv_at hl 0 rfl) ?_
        obtain ⟨x_9, hx_9, hf⟩ := Option.bind_eq_some_iff.mp hf
        have hFc := va_free (wc := (wSg a cI cJ F B K N_82 I T)) hD hS hA [0, 1, 2, 3, 4, 5, 6, 7, 8, 9, 10, 11, 12, 13, 14, 15, 16, 17] rfl
        refine va_calll (va_runV (As := [.long i1_82, .int i3_82]) (rest := []) ⟨hx, hb, hml, hown, hts⟩ (c_X5_addLineTo l dC dI cI cJ a H.size F B K N_82 I T i1_82 i3_82 x_9 hx_9) (cwV 2 hts gX5_digest_X5_addLineTo rfl rfl rfl (by decide +kernel) ⟨Nat.le_of_ble_eq_true rfl, Nat.le_of_ble_eq_true rfl⟩) ⟨q_Wblind, va_recv hK hP (ci := 5) (q0 := 0) rfl rfl, q_Wpre hP hK hn hD⟩ rfl rfl hl.1 rfl (lv_room (Nat.le_of_ble_eq_true rfl)) dX5_digest_96 ⟨Nat.zero_le _, Nat.zero_le _⟩) hS (fun q _ h => hFc q h) hFc (fun r_9 u t H1 locs ht hvm hw hB hz1 hk1 hS => ?_)
        subst hw
        obtain ⟨hP1, hK1, hD1⟩ := hB
        rw [ht] at hP1
        obtain ⟨hP, hD⟩ := va_join (wr := []) (w1 := (wSg a cI cJ F B K x_9.2 I T)) hP hD [0, 1, 2, 3, 4, 5, 6, 7, 8, 9, 10, 11, 12, 13, 14, 15, 16, 17] [] rfl rfl (by decide) (by decide) hk1 hFc hP1 hD1
        generalize H1 = H at hP hS ⊢
        have hP : va_P (dC, dI) vwCl (wSg a cI cJ F B K x_9.2 I T) H := hP
        have hD : va_D A (wSg a cI cJ F B K x_9.2 I T) := hD
        refine lv_lstore_n (lv' := [(1, .long x_9.1), (3, .int i3_82), (0, .ref (a 0))]) hx hb dX5_digest_99 rfl hl (by decide) rfl (fun ls hl => ?_)
        refine lv_iinc (v := i3_82 + 1) (lv' := [(3, .int (i3_82 + 1)), (1, .long x_9.1), (0, .ref (a 0))]) hx hb dX5_digest_100 hl (k := 1) rfl rfl (by decide) rfl (fun ls hl => ?_)
        refine lv_goto (tgt := 82) hx hb dX5_digest_103 (by decide) ?_
        exact ih x_9.1 (i3_82 + 1) x_9.2 H locs ls _ (lv_sub hl [0, 1, 2] rfl) hP hD hS hf hex_82
  obtain ⟨z_10, hz_10, hf⟩ := Option.bind_eq_some_iff.mp hf
  refine L_82 1000 z_7.1 0 N H locs ls z_10 (lv_sub hl [0, 1, 2] rfl) hP hD hS hz_10 (fun H locs ls hl hP hD hS => ?_)
  refine lv_lload_n hx hb dX5_digest_106 rfl (lv_at hl 1 rfl) ?_
  refine lv_ldc2 hx hb hown (hts (.constantLong RX5 274 31) (by decide +kernel)) dX5_digest_107 ?_
  refine lv_lmul hx hb dX5_digest_110 ?_
  refine lv_aload_n hx hb dX5_digest_111 rfl (lv_at hl 2 rfl) ?_
  obtain ⟨x_11, hx_11, hf⟩ := Option.bind_eq_some_iff.mp hf
  have hFc := va_free (wc := (wSg a cI cJ F B K z_10.2.2 I T)) hD hS hA [0, 1, 2, 3, 4, 5, 6, 7, 8, 9, 10, 11, 12, 13, 14, 15, 16, 17] rfl
  refine va_calli (va_runV (As := []) (rest := [.long (z_10.1 * 31)]) ⟨hx, hb, hml, hown, hts⟩ (c_X5_isSound l dC dI cI cJ a H.size F B K z_10.2.2 I T x_11 hx_11) (cwV 0 hts gX5_digest_X5_isSound rfl rfl rfl (by decide +kernel) ⟨Nat.le_of_ble_eq_true rfl, Nat.le_of_ble_eq_true rfl⟩) ⟨q_Wblind, va_recv hK hP (ci := 5) (q0 := 0) rfl rfl, q_Wpre hP hK hn hD⟩ rfl rfl hl.1 rfl (lv_room (Nat.le_of_ble_eq_true rfl)) dX5_digest_112 ⟨Nat.zero_le _, Nat.zero_le _⟩) hS (fun q _ h => hFc q h) hFc (fun r_9 u t H1 locs ht hvm hw hB hz1 hk1 hS => ?_)
  subst hw
  obtain ⟨hP1, hK1, hD1⟩ := hB
  rw [ht] at hP1
  obtain ⟨hP, hD⟩ := va_join (wr := []) (w1 := (wSg a cI cJ F B K x_11.2 I T)) hP hD [0, 1, 2, 3, 4, 5, 6, 7, 8, 9, 10, 11, 12, 13, 14, 15, 16, 17] [] rfl rfl (by decide) (by decide) hk1 hFc hP1 hD1
  generalize H1 = H at hP hS ⊢
  have hP : va_P (dC, dI) vwCl (wSg a cI cJ F B K x_11.2 I T) H := hP
  have hD : va_D A (wSg a cI cJ F B K x_11.2 I T) := hD
  refine lv_if_eq (tgt := 122) hx hb dX5_digest_115 (by decide) (fun c_12 => ?_) (fun c_12 => ?_)
  · replace hf := (if_pos c_12).symm.trans hf
    refine lv_iconst (v := 0) hx hb dX5_digest_122 (by decide) ?_
    refine lv_i2l (v := (0 : Int32).toInt64) hx hb dX5_digest_123 rfl ?_
    refine lv_ladd hx hb dX5_digest_124 ?_
    replace hf := Option.some.inj hf
    subst hf
    exact W.lret (v := (z_10.1 * 31) + ((0 : Int32).toInt64)) hx hb hr (fun t ht hW => ⟨⟨(z_10.1 * 31) + ((0 : Int32).toInt64), (), rfl, rfl, ⟨by rw [ht]; exact hP, va_K.moved hW.alike hK, hD⟩⟩, hS.F ht⟩) hS.2.2 dX5_digest_125
  · replace hf := (if_neg c_12).symm.trans hf
    refine lv_iconst (v := 1) hx hb dX5_digest_118 (by decide) ?_
    refine lv_goto (tgt := 123) hx hb dX5_digest_119 (by decide) ?_
    refine lv_i2l (v := (1 : Int32).toInt64) hx hb dX5_digest_123 rfl ?_
    refine lv_ladd hx hb dX5_digest_124 ?_
    replace hf := Option.some.inj hf
    subst hf
    exact W.lret (v := (z_10.1 * 31) + ((1 : Int32).toInt64)) hx hb hr (fun t ht hW => ⟨⟨(z_10.1 * 31) + ((1 : Int32).toInt64), (), rfl, rfl, ⟨by rw [ht]; exact hP, va_K.moved hW.alike hK, hD⟩⟩, hS.F ht⟩) hS.2.2 dX5_digest_125
