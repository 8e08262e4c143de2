def f_X2_giveUp (N : q_Pl)  : q_Pl := (N.1, N.2.1, N.2.2.1, N.2.2.2.1, N.2.2.2.2.1, N.2.2.2.2.2.1, N.2.2.2.2.2.2.1, (-1))
set_option maxHeartbeats 4000000 in
set_option maxRecDepth 100000 in
theorem c_X2_giveUp (l : Launch) (dC : Nat → ClassId) (dI : Nat → Nat → Nat) (cI cJ : ClassId) (n0 : Nat) (n1 : Nat) (n2 : Nat) (n3 : Nat) (sz : Nat) (N : q_Pl)  : Met l yX2_giveUp wsX2_giveUp ({ frames := 0, cells := 0, slots := 0, locals := 0 } : Room) (va_Pc [.ref n0] (q_W (dC, dI) vwCl (wPl n0 n1 n2 n3 cI N) (q_ty cI cJ) sz)) (va_Qv (S := Unit) (fun _ => True) (fun _ => q_E (dC, dI) vwCl (wPl n0 n1 n2 n3 cI (f_X2_giveUp N)) (q_ty cI cJ) (va_A (wPl n0 n1 n2 n3 cI N) sz)) (va_A (wPl n0 n1 n2 n3 cI N) sz)) 0 0 (va_A (wPl n0 n1 n2 n3 cI N) sz) := by
  refine Met.ofW (cc := cX2_giveUp) (maxL := 1) (ret := none) (by decide) rfl ?_
  intro p e s m args below meth c s₁ BB hml hv
  obtain ⟨rfl, hsz, hP, hK, hn, hD0⟩ := hv
  have hx := BB.exec
  have hb := BB.bytes
  have hr := BB.returns
  have hts := atoms_spec (ws := wsX2_giveUp) BB.pre
  have hown : s.vm.findClass RX2 = some m.cls := findClass_of_methodNamed BB.named
  have hlocks := BB.notSynchronized
  subst hsz
  have hD := hD0.self (sz := s.heap.size)
  generalize hAe : va_A (wPl n0 n1 n2 n3 cI N) s.heap.size = A at hD ⊢
  have hA : ∀ q : Nat, s.heap.size ≤ q → A q := fun q h => by rw [← hAe]; exact Or.inr h
  have hS : va_S A s.heap s.heap [] := va_S.rf
  have hi2 : ∀ w ∈ u_ws RX2 TX2 8, w ∈ wsX2_giveUp := by decide +kernel
  have hl := lv_entry [.ref n0] (n := 1) (Nat.le_of_ble_eq_true rfl)
  rw [lg_entry_eq]
  generalize (lg_sl [.ref n0] ++ List.replicate (1 - (lg_sl [.ref n0]).length) Slot.unset).toArray = ls at hl ⊢
  have hl : lv_has ls 1 [(0, .ref n0)] := hl
  generalize hf : f_X2_giveUp N = r0
  obtain ⟨H, hH⟩ : ∃ H, H = s.heap := ⟨_, rfl⟩
  obtain ⟨locs, hlocs⟩ : ∃ x : List Loc, x = [] := ⟨_, rfl⟩
  rw [← hH] at hP
  have hS : va_S A s.heap H locs := by rw [hH, hlocs]; exact hS
  suffices hgoal : ∀ (H : Heap) (locs : List Loc), va_P (dC, dI) vwCl (wPl n0 n1 n2 n3 cI N) H → va_S A s.heap H locs → W p l e (headSpec wsX2_giveUp ({ frames := 0, cells := 0, slots := 0, locals := 0 } : Room)).room s m [.ref n0].toArray below meth c H locs 0 0 (MQ below (va_Qv (S := Unit) (fun _ => True) (fun _ => q_E (dC, dI) vwCl (wPl n0 n1 n2 n3 cI r0) (q_ty cI cJ) A) A) [.ref n0].toArray s 0 0 A) (F0 m 0 ls []) by
    have h9 := hgoal H locs hP hS
    rw [hH, hlocs] at h9
    exact h9
  clear hP hS hH H hlocs locs
  intro H locs hP hS
  unfold f_X2_giveUp at hf
  refine lv_aload_n hx hb dX2_giveUp_0 rfl (lv_at hl 0 rfl) ?_
  refine lv_iconst (v := (-1)) hx hb dX2_giveUp_1 (by decide) ?_
  refine va_put (D := (dC, dI)) (ci := 2) (v := .int (-1)) (ty := .int) (C := RX2) (T := TX2) (N := 8) hx hb hts hi2 tyX2 tyX2_ok nmX2 hown hK hP hD hS 0 rfl rfl 7 (by decide) (hts (.fieldLink RX2 21 RX2 "steps" "I") (by decide +kernel)) (fun _ h9 => h9) rfl (by decide +kernel) rfl rfl (Nat.le_of_ble_eq_true rfl) dX2_giveUp_2 (fun H locs hP hD hS => ?_)
  have hP : va_P (dC, dI) vwCl (wPl n0 n1 n2 n3 cI (N.1, N.2.1, N.2.2.1, N.2.2.2.1, N.2.2.2.2.1, N.2.2.2.2.2.1, N.2.2.2.2.2.2.1, (-1))) H := hP
  have hD : va_D A (wPl n0 n1 n2 n3 cI (N.1, N.2.1, N.2.2.1, N.2.2.2.1, N.2.2.2.2.1, N.2.2.2.2.2.1, N.2.2.2.2.2.2.1, (-1))) := hD
  subst hf
  exact W.vret hx hb hr (fun t ht hW => ⟨⟨(), rfl, trivial, ⟨by rw [ht]; exact hP, va_K.moved hW.alike hK, hD⟩⟩, hS.F ht⟩) hS.2.2 dX2_giveUp_5
def fl_X2_countDots_2  : Nat → Int32 → q_Pl → Option (Int32 × q_Pl)
  | 0, _, _ => none
  | nn + 1, i1_2, N_2 => (if (nI 256) ≤ i1_2 then some (i1_2, N_2) else (if q_ix i1_2 256 = true then fl_X2_countDots_2  nn (i1_2 + 1) (N_2.1, (upd N_2.2.1 i1_2.toNatClampNeg ((f_X5_at 256 N_2.2.1 (i1_2 &&& (i1_2 - 1))) + (f_J6_bitCount_0f7a4 (f_X5_setIn (N_2.2.2.2.1 ^^^ N_2.2.2.2.2.1) (f_J6_bitCount_0f7a4 ((i1_2 &&& (-i1_2)) - 1)))))), N_2.2.2.1, N_2.2.2.2.1, N_2.2.2.2.2.1, N_2.2.2.2.2.2.1, N_2.2.2.2.2.2.2.1, N_2.2.2.2.2.2.2.2) else none))
def f_X2_countDots (N : q_Pl)  : Option (q_Pl) := ((fl_X2_countDots_2  1000 1 N).bind fun z_3 => some z_3.2)
set_option maxHeartbeats 4000000 in
set_option maxRecDepth 100000 in
theorem c_X2_countDots (l : Launch) (dC : Nat → ClassId) (dI : Nat → Nat → Nat) (cI cJ : ClassId) (n0 : Nat) (n1 : Nat) (n2 : Nat) (n3 : Nat) (sz : Nat) (N : q_Pl)  (r0 : q_Pl) (hf : f_X2_countDots N = some r0) : Met l yX2_countDots wsX2_countDots ({ frames := 1, cells := 0, slots := 0, locals := 22 } : Room) (va_Pc [.ref n0] (q_W (dC, dI) vwCl (wPl n0 n1 n2 n3 cI N) (q_ty cI cJ) sz)) (va_Qv (S := Unit) (fun _ => True) (fun _ => q_E (dC, dI) vwCl (wPl n0 n1 n2 n3 cI r0) (q_ty cI cJ) (va_A (wPl n0 n1 n2 n3 cI N) sz)) (va_A (wPl n0 n1 n2 n3 cI N) sz)) 0 0 (va_A (wPl n0 n1 n2 n3 cI N) sz) := by
  refine Met.ofW (cc := cX2_countDots) (maxL := 4) (ret := none) (by decide) rfl ?_
  intro p e s m args below meth c s₁ BB hml hv
  obtain ⟨rfl, hsz, hP, hK, hn, hD0⟩ := hv
  have hx := BB.exec
  have hb := BB.bytes
  have hr := BB.returns
  have hts := atoms_spec (ws := wsX2_countDots) BB.pre
  have hown : s.vm.findClass RX2 = some m.cls := findClass_of_methodNamed BB.named
  have hlocks := BB.notSynchronized
  subst hsz
  have hD := hD0.self (sz := s.heap.size)
  generalize hAe : va_A (wPl n0 n1 n2 n3 cI N) s.heap.size = A at hD ⊢
  have hA : ∀ q : Nat, s.heap.size ≤ q → A q := fun q h => by rw [← hAe]; exact Or.inr h
  have hS : va_S A s.heap s.heap [] := va_S.rf
  have hi2 : ∀ w ∈ u_ws RX2 TX2 8, w ∈ wsX2_countDots := by decide +kernel
  have hl := lv_entry [.ref n0] (n := 4) (Nat.le_of_ble_eq_true rfl)
  rw [lg_entry_eq]
  generalize (lg_sl [.ref n0] ++ List.replicate (4 - (lg_sl [.ref n0]).length) Slot.unset).toArray = ls at hl ⊢
  have hl : lv_has ls 4 [(0, .ref n0)] := hl
  obtain ⟨H, hH⟩ : ∃ H, H = s.heap := ⟨_, rfl⟩
  obtain ⟨locs, hlocs⟩ : ∃ x : List Loc, x = [] := ⟨_, rfl⟩
  rw [← hH] at hP
  have hS : va_S A s.heap H locs := by rw [hH, hlocs]; exact hS
  suffices hgoal : ∀ (H : Heap) (locs : List Loc), va_P (dC, dI) vwCl (wPl n0 n1 n2 n3 cI N) H → va_S A s.heap H locs → W p l e (headSpec wsX2_countDots ({ frames := 1, cells := 0, slots := 0, locals := 22 } : Room)).room s m [.ref n0].toArray below meth c H locs 0 0 (MQ below (va_Qv (S := Unit) (fun _ => True) (fun _ => q_E (dC, dI) vwCl (wPl n0 n1 n2 n3 cI r0) (q_ty cI cJ) A) A) [.ref n0].toArray s 0 0 A) (F0 m 0 ls []) by
    have h9 := hgoal H locs hP hS
    rw [hH, hlocs] at h9
    exact h9
  clear hP hS hH H hlocs locs
  intro H locs hP hS
  unfold f_X2_countDots at hf
  refine lv_iconst (v := 1) hx hb dX2_countDots_0 (by decide) ?_
  refine lv_istore_n (lv' := [(1, .int 1), (0, .ref n0)]) hx hb dX2_countDots_1 rfl hl (by decide) rfl (fun ls hl => ?_)
  have L_2 : ∀ (nn : Nat) (i1_2 : Int32) (N_2 : q_Pl) (H : Heap) (locs : List Loc) (ls : Array Slot) (z_2 : (Int32 × q_Pl)), lv_has ls 4 [(1, .int i1_2), (0, .ref n0)] → va_P (dC, dI) vwCl (wPl n0 n1 n2 n3 cI N_2) H → va_D A (wPl n0 n1 n2 n3 cI N_2) → va_S A s.heap H locs → fl_X2_countDots_2  nn i1_2 N_2 = some z_2 → (∀ (H : Heap) (locs : List Loc) (ls : Array Slot), lv_has ls 4 [(1, .int z_2.1), (0, .ref n0)] → va_P (dC, dI) vwCl (wPl n0 n1 n2 n3 cI z_2.2) H → va_D A (wPl n0 n1 n2 n3 cI z_2.2) → va_S A s.heap H locs → W p l e (headSpec wsX2_countDots ({ frames := 1, cells := 0, slots := 0, locals := 22 } : Room)).room s m [.ref n0].toArray below meth c H locs 0 0 (MQ below (va_Qv (S := Unit) (fun _ => True) (fun _ => q_E (dC, dI) vwCl (wPl n0 n1 n2 n3 cI r0) (q_ty cI cJ) A) A) [.ref n0].toArray s 0 0 A) (F0 m 64 ls [])) → W p l e (headSpec wsX2_countDots ({ frames := 1, cells := 0, slots := 0, locals := 22 } : Room)).room s m [.ref n0].toArray below meth c H locs 0 0 (MQ below (va_Qv (S := Unit) (fun _ => True) (fun _ => q_E (dC, dI) vwCl (wPl n0 n1 n2 n3 cI r0) (q_ty cI cJ) A) A) [.ref n0].toArray s 0 0 A) (F0 m 2 ls []) := by
    intro nn
    induction nn with
    | zero =>
      intro i1_2 N_2 H locs ls z_2 hl hP hD hS hf hex_2
      rw [fl_X2_countDots_2] at hf
      cases hf
    | succ nn ih =>
      intro i1_2 N_2 H locs ls z_2 hl hP hD hS hf hex_2
      rw [fl_X2_countDots_2] at hf
      refine lv_iload_n hx hb dX2_countDots_2 rfl (lv_at hl 0 rfl) ?_
      refine lv_aload_n hx hb dX2_countDots_3 rfl (lv_at hl 1 rfl) ?_
      refine va_get (D := (dC, dI)) (ci := 2) (v := .ref n2) (C := RX2) (T := TX2) (N := 8) hx hb hts hi2 hown hK hP 0 rfl rfl 1 (by decide) (hts (.fieldLink RX2 15 RX2 "dotsIn" "[I") (by decide +kernel)) (fun _ h9 => h9) rfl dX2_countDots_4 ?_
      refine va_alen (v := nI 256) hx hb hK hP 2 0 rfl rfl rfl dX2_countDots_7 ?_
      refine lv_icmp_ge (tgt := 64) hx hb dX2_countDots_8 (by decide) (fun c_1 => ?_) (fun c_1 => ?_)
      · replace hf := (if_pos c_1).symm.trans hf
        replace hf := Option.some.inj hf
        subst hf
        exact hex_2 H locs ls (lv_sub hl [0, 1] rfl) hP hD hS
      · replace hf := (if_neg c_1).symm.trans hf
        refine lv_iload_n hx hb dX2_countDots_11 rfl (lv_at hl 0 rfl) ?_
        refine lv_iload_n hx hb dX2_countDots_12 rfl (lv_at hl 0 rfl) ?_
        refine lv_ineg hx hb dX2_countDots_13 ?_
        refine lv_iand hx hb dX2_countDots_14 ?_
        refine lv_iconst (v := 1) hx hb dX2_countDots_15 (by decide) ?_
        refine lv_isub hx hb dX2_countDots_16 ?_
        refine q_rS (As := [.int ((i1_2 &&& (-i1_2)) - 1)]) (rest := []) ⟨hx, hb, hml, hown, hts⟩ (c_J6_bitCount_0f7a4 l dC dI cI cJ ((i1_2 &&& (-i1_2)) - 1)) (va_cwS 1 hts gX2_countDots_J6_bitCount_0f7a4 rfl rfl rfl (by decide +kernel) ⟨Nat.le_of_ble_eq_true rfl, Nat.le_of_ble_eq_true rfl⟩) hK hn (hP.sub (ws' := []) [] rfl) rfl hl.1 rfl (Nat.le_of_ble_eq_true rfl) dX2_countDots_17 ⟨Nat.zero_le _, Nat.zero_le _⟩ ?_
        refine lv_istore_n (lv' := [(2, .int (f_J6_bitCount_0f7a4 ((i1_2 &&& (-i1_2)) - 1))), (1, .int i1_2), (0, .ref n0)]) hx hb dX2_countDots_20 rfl hl (by decide) rfl (fun ls hl => ?_)
        refine lv_aload_n hx hb dX2_countDots_21 rfl (lv_at hl 2 rfl) ?_
        refine va_get (D := (dC, dI)) (ci := 2) (v := .long N_2.2.2.2.1) (C := RX2) (T := TX2) (N := 8) hx hb hts hi2 hown hK hP 0 rfl rfl 3 (by decide) (hts (.fieldLink RX2 25 RX2 "start" "J") (by decide +kernel)) (fun _ h9 => h9) rfl dX2_countDots_22 ?_
        refine lv_aload_n hx hb dX2_countDots_25 rfl (lv_at hl 2 rfl) ?_
        refine va_get (D := (dC, dI)) (ci := 2) (v := .long N_2.2.2.2.2.1) (C := RX2) (T := TX2) (N := 8) hx hb hts hi2 hown hK hP 0 rfl rfl 4 (by decide) (hts (.fieldLink RX2 29 RX2 "goal" "J") (by decide +kernel)) (fun _ h9 => h9) rfl dX2_countDots_26 ?_
        refine lv_lxor hx hb dX2_countDots_29 ?_
        refine lv_iload_n hx hb dX2_countDots_30 rfl (lv_at hl 0 rfl) ?_
        refine q_rSN (As := [.long (N_2.2.2.2.1 ^^^ N_2.2.2.2.2.1), .int (f_J6_bitCount_0f7a4 ((i1_2 &&& (-i1_2)) - 1))]) (rest := []) ⟨hx, hb, hml, hown, hts⟩ (c_X5_setIn l dC dI cI cJ (N_2.2.2.2.1 ^^^ N_2.2.2.2.2.1) (f_J6_bitCount_0f7a4 ((i1_2 &&& (-i1_2)) - 1))) ⟨va_cnB 2 hts gX2_countDots_X5_setIn_n38 rfl rfl rfl (nm_RX2_38 hn) (hts (.initialized RX5) (by decide +kernel)) (by decide +kernel) ⟨Nat.le_of_ble_eq_true rfl, Nat.le_of_ble_eq_true rfl⟩, hts (.static yX5_setIn) (by decide +kernel), trivial⟩ hK hn (hP.sub (ws' := []) [] rfl) rfl hl.1 rfl (Nat.le_of_ble_eq_true rfl) dX2_countDots_31 ⟨Nat.zero_le _, Nat.zero_le _⟩ ?_
        refine q_rS (As := [.int (f_X5_setIn (N_2.2.2.2.1 ^^^ N_2.2.2.2.2.1) (f_J6_bitCount_0f7a4 ((i1_2 &&& (-i1_2)) - 1)))]) (rest := []) ⟨hx, hb, hml, hown, hts⟩ (c_J6_bitCount_0f7a4 l dC dI cI cJ (f_X5_setIn (N_2.2.2.2.1 ^^^ N_2.2.2.2.2.1) (f_J6_bitCount_0f7a4 ((i1_2 &&& (-i1_2)) - 1)))) (va_cwS 1 hts gX2_countDots_J6_bitCount_0f7a4 rfl rfl rfl (by decide +kernel) ⟨Nat.le_of_ble_eq_true rfl, Nat.le_of_ble_eq_true rfl⟩) hK hn (hP.sub (ws' := []) [] rfl) rfl hl.1 rfl (Nat.le_of_ble_eq_true rfl) dX2_countDots_34 ⟨Nat.zero_le _, Nat.zero_le _⟩ ?_
        refine lv_istore_n (lv' := [(3, .int (f_J6_bitCount_0f7a4 (f_X5_setIn (N_2.2.2.2.1 ^^^ N_2.2.2.2.2.1) (f_J6_bitCount_0f7a4 ((i1_2 &&& (-i1_2)) - 1))))), (2, .int (f_J6_bitCount_0f7a4 ((i1_2 &&& (-i1_2)) - 1))), (1, .int i1_2), (0, .ref n0)]) hx hb dX2_countDots_37 rfl hl (by decide) rfl (fun ls hl => ?_)
        refine lv_aload_n hx hb dX2_countDots_38 rfl (lv_at hl 3 rfl) ?_
        refine va_get (D := (dC, dI)) (ci := 2) (v := .ref n2) (C := RX2) (T := TX2) (N := 8) hx hb hts hi2 hown hK hP 0 rfl rfl 1 (by decide) (hts (.fieldLink RX2 15 RX2 "dotsIn" "[I") (by decide +kernel)) (fun _ h9 => h9) rfl dX2_countDots_39 ?_
        refine lv_iload_n hx hb dX2_countDots_42 rfl (lv_at hl 2 rfl) ?_
        refine lv_aload_n hx hb dX2_countDots_43 rfl (lv_at hl 3 rfl) ?_
        refine va_get (D := (dC, dI)) (ci := 2) (v := .ref n2) (C := RX2) (T := TX2) (N := 8) hx hb hts hi2 hown hK hP 0 rfl rfl 1 (by decide) (hts (.fieldLink RX2 15 RX2 "dotsIn" "[I") (by decide +kernel)) (fun _ h9 => h9) rfl dX2_countDots_44 ?_
        refine lv_iload_n hx hb dX2_countDots_47 rfl (lv_at hl 2 rfl) ?_
        refine lv_iload_n hx hb dX2_countDots_48 rfl (lv_at hl 2 rfl) ?_
        refine lv_iconst (v := 1) hx hb dX2_countDots_49 (by decide) ?_
        refine lv_isub hx hb dX2_countDots_50 ?_
        refine lv_iand hx hb dX2_countDots_51 ?_
        refine q_rSN (As := [.ref n2, .int (i1_2 &&& (i1_2 - 1))]) (rest := [.int i1_2, .ref n2]) ⟨hx, hb, hml, hown, hts⟩ (c_X5_at l dC dI cI cJ n2 256 N_2.2.1 (by decide) (i1_2 &&& (i1_2 - 1))) ⟨va_cnB 2 hts gX2_countDots_X5_at_n51 rfl rfl rfl (nm_RX2_51 hn) (hts (.initialized RX5) (by decide +kernel)) (by decide +kernel) ⟨Nat.le_of_ble_eq_true rfl, Nat.le_of_ble_eq_true rfl⟩, hts (.static yX5_at) (by decide +kernel), trivial⟩ hK hn (hP.sub (ws' := [(n2, .inl (cI, 256, .inl N_2.2.1))]) [2] rfl) rfl hl.1 rfl (Nat.le_of_ble_eq_true rfl) dX2_countDots_52 ⟨Nat.zero_le _, Nat.zero_le _⟩ ?_
        refine lv_iload_n hx hb dX2_countDots_55 rfl (lv_at hl 0 rfl) ?_
        refine lv_iadd hx hb dX2_countDots_56 ?_
        by_cases nc_2 : ¬ q_ix i1_2 256 = true
        · replace hf := (if_neg nc_2).symm.trans hf
          cases hf
        have c_2 := Classical.not_not.mp nc_2
        replace hf := (if_pos c_2).symm.trans hf
        refine va_iast hx hb hK hP hD hS 2 0 rfl rfl (q_ix_in c_2) dX2_countDots_57 (fun H locs hP hD hS => ?_)
        have hP : va_P (dC, dI) vwCl (wPl n0 n1 n2 n3 cI (N_2.1, (upd N_2.2.1 i1_2.toNatClampNeg ((f_X5_at 256 N_2.2.1 (i1_2 &&& (i1_2 - 1))) + (f_J6_bitCount_0f7a4 (f_X5_setIn (N_2.2.2.2.1 ^^^ N_2.2.2.2.2.1) (f_J6_bitCount_0f7a4 ((i1_2 &&& (-i1_2)) - 1)))))), N_2.2.2.1, N_2.2.2.2.1, N_2.2.2.2.2.1, N_2.2.2.2.2.2.1, N_2.2.2.2.2.2.2.1, N_2.2.2.2.2.2.2.2)) H := hP
        have hD : va_D A (wPl n0 n1 n2 n3 cI (N_2.1, (upd N_2.2.1 i1_2.toNatClampNeg ((f_X5_at 256 N_2.2.1 (i1_2 &&& (i1_2 - 1))) + (f_J6_bitCount_0f7a4 (f_X5_setIn (N_2.2.2.2.1 ^^^ N_2.2.2.2.2.1) (f_J6_bitCount_0f7a4 ((i1_2 &&& (-i1_2)) - 1)))))), N_2.2.2.1, N_2.2.2.2.1, N_2.2.2.2.2.1, N_2.2.2.2.2.2.1, N_2.2.2.2.2.2.2.1, N_2.2.2.2.2.2.2.2)) := hD
        refine lv_iinc (v := i1_2 + 1) (lv' := [(1, .int (i1_2 + 1)), (3, .int (f_J6_bitCount_0f7a4 (f_X5_setIn (N_2.2.2.2.1 ^^^ N_2.2.2.2.2.1) (f_J6_bitCount_0f7a4 ((i1_2 &&& (-i1_2)) - 1))))), (2, .int (f_J6_bitCount_0f7a4 ((i1_2 &&& (-i1_2)) - 1))), (0, .ref n0)]) hx hb dX2_countDots_58 hl (k := 2) rfl rfl (by decide) rfl (fun ls hl => ?_)
        refine lv_goto (tgt := 2) hx hb dX2_countDots_61 (by decide) ?_
        exact ih (i1_2 + 1) (N_2.1, (upd N_2.2.1 i1_2.toNatClampNeg ((f_X5_at 256 N_2.2.1 (i1_2 &&& (i1_2 - 1))) + (f_J6_bitCount_0f7a4 (f_X5_setIn (N_2.2.2.2.1 ^^^ N_2.2.2.2.2.1) (f_J6_bitCount_0f7a4 ((i1_2 &&& (-i1_2)) - 1)))))), N_2.2.2.1, N_2.2.2.2.1, N_2.2.2.2.2.1, N_2.2.2.2.2.2.1, N_2.2.2.2.2.2.2.1, N_2.2.2.2.2.2.2.2) H locs ls _ (lv_sub hl [0, 3] rfl) hP hD hS hf hex_2
  obtain ⟨z_3, hz_3, hf⟩ := Option.bind_eq_some_iff.mp hf
  refine L_2 1000 1 N H locs ls z_3 (lv_sub hl [0, 1] rfl) hP hD hS hz_3 (fun H locs ls hl hP hD hS => ?_)
  replace hf := Option.some.inj hf
  subst hf
  exact W.vret hx hb hr (fun t ht hW => ⟨⟨(), rfl, trivial, ⟨by rw [ht]; exact hP, va_K.moved hW.alike hK, hD⟩⟩, hS.F ht⟩) hS.2.2 dX2_countDots_64
def fl_X2_begin_24 (x0 : Int64) (x1 : Int64) : Nat → Int32 → q_Pl → Option (Int32 × q_Pl)
  | 0, _, _ => none
  | nn + 1, i6_24, N_24 => (if 8 ≤ i6_24 then some (i6_24, N_24) else (if (f_X5_setIn (x0 ^^^ x1) i6_24) = 0 then fl_X2_begin_24 x0 x1 nn (i6_24 + 1) (N_24.1, N_24.2.1, N_24.2.2.1, N_24.2.2.2.1, N_24.2.2.2.2.1, N_24.2.2.2.2.2.1, N_24.2.2.2.2.2.2.1 ||| 0, N_24.2.2.2.2.2.2.2) else fl_X2_begin_24 x0 x1 nn (i6_24 + 1) (N_24.1, N_24.2.1, N_24.2.2.1, N_24.2.2.2.1, N_24.2.2.2.2.1, N_24.2.2.2.2.2.1, N_24.2.2.2.2.2.2.1 ||| (1 <<< (i6_24 &&& 31)), N_24.2.2.2.2.2.2.2)))
def fl_X2_begin_68  : Nat → Int32 → q_Pl → Option (Int32 × q_Pl)
  | 0, _, _ => none
  | nn + 1, i6_68, N_68 => (if (nI 256) ≤ i6_68 then some (i6_68, N_68) else (if q_ix i6_68 256 = true then fl_X2_begin_68  nn (i6_68 + 1) ((upd N_68.1 i6_68.toNatClampNeg 0), N_68.2.1, N_68.2.2.1, N_68.2.2.2.1, N_68.2.2.2.2.1, N_68.2.2.2.2.2.1, N_68.2.2.2.2.2.2.1, N_68.2.2.2.2.2.2.2) else none))
def f_X2_begin (N : q_Pl) (x0 : Int64) (x1 : Int64) (x2 : Int32) : Option (q_Pl) := ((fl_X2_begin_24 x0 x1 1000 0 (N.1, N.2.1, N.2.2.1, x0, x1, x2, 0, N.2.2.2.2.2.2.2)).bind fun z_3 => ((fl_X2_begin_68  1000 0 z_3.2).bind fun z_6 => ((f_X2_countDots z_6.2).bind fun x_7 => some x_7)))
set_option maxHeartbeats 4000000 in
set_option maxRecDepth 100000 in
theorem c_X2_begin (l : Launch) (dC : Nat → ClassId) (dI : Nat → Nat → Nat) (cI cJ : ClassId) (n0 : Nat) (n1 : Nat) (n2 : Nat) (n3 : Nat) (sz : Nat) (N : q_Pl) (x0 : Int64) (x1 : Int64) (x2 : Int32) (r0 : q_Pl) (hf : f_X2_begin N x0 x1 x2 = some r0) : Met l yX2_begin wsX2_begin ({ frames := 2, cells := 0, slots := 0, locals := 45 } : Room) (va_Pc [.ref n0, .long x0, .long x1, .int x2] (q_W (dC, dI) vwCl (wPl n0 n1 n2 n3 cI N) (q_ty cI cJ) sz)) (va_Qv (S := Unit) (fun _ => True) (fun _ => q_E (dC, dI) vwCl (wPl n0 n1 n2 n3 cI r0) (q_ty cI cJ) (va_A (wPl n0 n1 n2 n3 cI N) sz)) (va_A (wPl n0 n1 n2 n3 cI N) sz)) 0 0 (va_A (wPl n0 n1 n2 n3 cI N) sz) := by
  refine Met.ofW (cc := cX2_begin) (maxL := 7) (ret := none) (by decide) rfl ?_
  intro p e s m args below meth c s₁ BB hml hv
  obtain ⟨rfl, hsz, hP, hK, hn, hD0⟩ := hv
  have hx := BB.exec
  have hb := BB.bytes
  have hr := BB.returns
  have hts := atoms_spec (ws := wsX2_begin) BB.pre
  have hown : s.vm.findClass RX2 = some m.cls := findClass_of_methodNamed BB.named
  have hlocks := BB.notSynchronized
  subst hsz
  have hD := hD0.self (sz := s.heap.size)
  generalize hAe : va_A (wPl n0 n1 n2 n3 cI N) s.heap.size = A at hD ⊢
  have hA : ∀ q : Nat, s.heap.size ≤ q → A q := fun q h => by rw [← hAe]; exact Or.inr h
  have hS : va_S A s.heap s.heap [] := va_S.rf
  have hi2 : ∀ w ∈ u_ws RX2 TX2 8, w ∈ wsX2_begin := by decide +kernel
  have hl := lv_entry [.ref n0, .long x0, .long x1, .int x2] (n := 7) (Nat.le_of_ble_eq_true rfl)
  rw [lg_entry_eq]
  generalize (lg_sl [.ref n0, .long x0, .long x1, .int x2] ++ List.replicate (7 - (lg_sl [.ref n0, .long x0, .long x1, .int x2]).length) Slot.unset).toArray = ls at hl ⊢
  have hl : lv_has ls 7 [(0, .ref n0), (1, .long x0), (3, .long x1), (5, .int x2)] := hl
  obtain ⟨H, hH⟩ : ∃ H, H = s.heap := ⟨_, rfl⟩
  obtain ⟨locs, hlocs⟩ : ∃ x : List Loc, x = [] := ⟨_, rfl⟩
  rw [← hH] at hP
  have hS : va_S A s.heap H locs := by rw [hH, hlocs]; exact hS
  suffices hgoal : ∀ (H : Heap) (locs : List Loc), va_P (dC, dI) vwCl (wPl n0 n1 n2 n3 cI N) H → va_S A s.heap H locs → W p l e (headSpec wsX2_begin ({ frames := 2, cells := 0, slots := 0, locals := 45 } : Room)).room s m [.ref n0, .long x0, .long x1, .int x2].toArray below meth c H locs 0 0 (MQ below (va_Qv (S := Unit) (fun _ => True) (fun _ => q_E (dC, dI) vwCl (wPl n0 n1 n2 n3 cI r0) (q_ty cI cJ) A) A) [.ref n0, .long x0, .long x1, .int x2].toArray s 0 0 A) (F0 m 0 ls []) by
    have h9 := hgoal H locs hP hS
    rw [hH, hlocs] at h9
    exact h9
  clear hP hS hH H hlocs locs
  intro H locs hP hS
  unfold f_X2_begin at hf
  refine lv_aload_n hx hb dX2_begin_0 rfl (lv_at hl 0 rfl) ?_
  refine lv_lload_n hx hb dX2_begin_1 rfl (lv_at hl 1 rfl) ?_
  refine va_put (D := (dC, dI)) (ci := 2) (v := .long x0) (ty := .long) (C := RX2) (T := TX2) (N := 8) hx hb hts hi2 tyX2 tyX2_ok nmX2 hown hK hP hD hS 0 rfl rfl 3 (by decide) (hts (.fieldLink RX2 25 RX2 "start" "J") (by decide +kernel)) (fun _ h9 => h9) rfl (by decide +kernel) rfl rfl (Nat.le_of_ble_eq_true rfl) dX2_begin_2 (fun H locs hP hD hS => ?_)
  have hP : va_P (dC, dI) vwCl (wPl n0 n1 n2 n3 cI (N.1, N.2.1, N.2.2.1, x0, N.2.2.2.2.1, N.2.2.2.2.2.1, N.2.2.2.2.2.2.1, N.2.2.2.2.2.2.2)) H := hP
  have hD : va_D A (wPl n0 n1 n2 n3 cI (N.1, N.2.1, N.2.2.1, x0, N.2.2.2.2.1, N.2.2.2.2.2.1, N.2.2.2.2.2.2.1, N.2.2.2.2.2.2.2)) := hD
  refine lv_aload_n hx hb dX2_begin_5 rfl (lv_at hl 0 rfl) ?_
  refine lv_lload_n hx hb dX2_begin_6 rfl (lv_at hl 2 rfl) ?_
  refine va_put (D := (dC, dI)) (ci := 2) (v := .long x1) (ty := .long) (C := RX2) (T := TX2) (N := 8) hx hb hts hi2 tyX2 tyX2_ok nmX2 hown hK hP hD hS 0 rfl rfl 4 (by decide) (hts (.fieldLink RX2 29 RX2 "goal" "J") (by decide +kernel)) (fun _ h9 => h9) rfl (by decide +kernel) rfl rfl (Nat.le_of_ble_eq_true rfl) dX2_begin_7 (fun H locs hP hD hS => ?_)
  have hP : va_P (dC, dI) vwCl (wPl n0 n1 n2 n3 cI (N.1, N.2.1, N.2.2.1, x0, x1, N.2.2.2.2.2.1, N.2.2.2.2.2.2.1, N.2.2.2.2.2.2.2)) H := hP
  have hD : va_D A (wPl n0 n1 n2 n3 cI (N.1, N.2.1, N.2.2.1, x0, x1, N.2.2.2.2.2.1, N.2.2.2.2.2.2.1, N.2.2.2.2.2.2.2)) := hD
  refine lv_aload_n hx hb dX2_begin_10 rfl (lv_at hl 0 rfl) ?_
  refine lv_iload hx hb dX2_begin_11 (lv_at hl 3 rfl) ?_
  refine va_put (D := (dC, dI)) (ci := 2) (v := .int x2) (ty := .int) (C := RX2) (T := TX2) (N := 8) hx hb hts hi2 tyX2 tyX2_ok nmX2 hown hK hP hD hS 0 rfl rfl 5 (by decide) (hts (.fieldLink RX2 32 RX2 "power" "I") (by decide +kernel)) (fun _ h9 => h9) rfl (by decide +kernel) rfl rfl (Nat.le_of_ble_eq_true rfl) dX2_begin_13 (fun H locs hP hD hS => ?_)
  have hP : va_P (dC, dI) vwCl (wPl n0 n1 n2 n3 cI (N.1, N.2.1, N.2.2.1, x0, x1, x2, N.2.2.2.2.2.2.1, N.2.2.2.2.2.2.2)) H := hP
  have hD : va_D A (wPl n0 n1 n2 n3 cI (N.1, N.2.1, N.2.2.1, x0, x1, x2, N.2.2.2.2.2.2.1, N.2.2.2.2.2.2.2)) := hD
  refine lv_aload_n hx hb dX2_begin_16 rfl (lv_at hl 0 rfl) ?_
  refine lv_iconst (v := 0) hx hb dX2_begin_17 (by decide) ?_
  refine va_put (D := (dC, dI)) (ci := 2) (v := .int 0) (ty := .int) (C := RX2) (T := TX2) (N := 8) hx hb hts hi2 tyX2 tyX2_ok nmX2 hown hK hP hD hS 0 rfl rfl 6 (by decide) (hts (.fieldLink RX2 35 RX2 "changed" "I") (by decide +kernel)) (fun _ h9 => h9) rfl (by decide +kernel) rfl rfl (Nat.le_of_ble_eq_true rfl) dX2_begin_18 (fun H locs hP hD hS => ?_)
  have hP : va_P (dC, dI) vwCl (wPl n0 n1 n2 n3 cI (N.1, N.2.1, N.2.2.1, x0, x1, x2, 0, N.2.2.2.2.2.2.2)) H := hP
  have hD : va_D A (wPl n0 n1 n2 n3 cI (N.1, N.2.1, N.2.2.1, x0, x1, x2, 0, N.2.2.2.2.2.2.2)) := hD
  refine lv_iconst (v := 0) hx hb dX2_begin_21 (by decide) ?_
  refine lv_istore (lv' := [(6, .int 0), (0, .ref n0), (1, .long x0), (3, .long x1), (5, .int x2)]) hx hb dX2_begin_22 hl (by decide) rfl (fun ls hl => ?_)
  have L_24 : ∀ (nn : Nat) (i6_24 : Int32) (N_24 : q_Pl) (H : Heap) (locs : List Loc) (ls : Array Slot) (z_24 : (Int32 × q_Pl)), lv_has ls 7 [(6, .int i6_24), (0, .ref n0), (1, .long x0), (3, .long x1), (5, .int x2)] → va_P (dC, dI) vwCl (wPl n0 n1 n2 n3 cI N_24) H → va_D A (wPl n0 n1 n2 n3 cI N_24) → va_S A s.heap H locs → fl_X2_begin_24 x0 x1 nn i6_24 N_24 = some z_24 → (∀ (H : Heap) (locs : List Loc) (ls : Array Slot), lv_has ls 7 [(6, .int z_24.1), (0, .ref n0), (1, .long x0), (3, .long x1), (5, .int x2)] → va_P (dC, dI) vwCl (wPl n0 n1 n2 n3 cI z_24.2) H → va_D A (wPl n0 n1 n2 n3 cI z_24.2) → va_S A s.heap H locs → W p l e (headSpec wsX2_begin ({ frames := 2, cells := 0, slots := 0, locals := 45 } : Room)).room s m [.ref n0, .long x0, .long x1, .int x2].toArray below meth c H locs 0 0 (MQ below (va_Qv (S := Unit) (fun _ => True) (fun _ => q_E (dC, dI) vwCl (wPl n0 n1 n2 n3 cI r0) (q_ty cI cJ) A) A) [.ref n0, .long x0, .long x1, .int x2].toArray s 0 0 A) (F0 m 65 ls [])) → W p l e (headSpec wsX2_begin ({ frames := 2, cells := 0, slots := 0, locals := 45 } : Room)).room s m [.ref n0, .long x0, .long x1, .int x2].toArray below meth c H locs 0 0 (MQ below (va_Qv (S := Unit) (fun _ => True) (fun _ => q_E (dC, dI) vwCl (wPl n0 n1 n2 n3 cI r0) (q_ty cI cJ) A) A) [.ref n0, .long x0, .long x1, .int x2].toArray s 0 0 A) (F0 m 24 ls []) := by
    intro nn
    induction nn with
    | zero =>
      intro i6_24 N_24 H locs ls z_24 hl hP hD hS hf hex_24
      rw [fl_X2_begin_24] at hf
      cases hf
    | succ nn ih =>
      intro i6_24 N_24 H locs ls z_24 hl hP hD hS hf hex_24
      rw [fl_X2_begin_24] at hf
      refine lv_iload hx hb dX2_begin_24 (lv_at hl 0 rfl) ?_
      refine lv_bipush (v := 8) hx hb dX2_begin_26 (by decide) ?_
      refine lv_icmp_ge (tgt := 65) hx hb dX2_begin_28 (by decide) (fun c_1 => ?_) (fun c_1 => ?_)
      · replace hf := (if_pos c_1).symm.trans hf
        replace hf := Option.some.inj hf
        subst hf
        exact hex_24 H locs ls (lv_sub hl [0, 1, 2, 3, 4] rfl) hP hD hS
      · replace hf := (if_neg c_1).symm.trans hf
        refine lv_aload_n hx hb dX2_begin_31 rfl (lv_at hl 1 rfl) ?_
        refine lv_dup hx hb dX2_begin_32 rfl ?_
        refine va_get (D := (dC, dI)) (ci := 2) (v := .int N_24.2.2.2.2.2.2.1) (C := RX2) (T := TX2) (N := 8) hx hb hts hi2 hown hK hP 0 rfl rfl 6 (by decide) (hts (.fieldLink RX2 35 RX2 "changed" "I") (by decide +kernel)) (fun _ h9 => h9) rfl dX2_begin_33 ?_
        refine lv_lload_n hx hb dX2_begin_36 rfl (lv_at hl 2 rfl) ?_
        refine lv_lload_n hx hb dX2_begin_37 rfl (lv_at hl 3 rfl) ?_
        refine lv_lxor hx hb dX2_begin_38 ?_
        refine lv_iload hx hb dX2_begin_39 (lv_at hl 0 rfl) ?_
        refine q_rSN (As := [.long (x0 ^^^ x1), .int i6_24]) (rest := [.int N_24.2.2.2.2.2.2.1, .ref n0]) ⟨hx, hb, hml, hown, hts⟩ (c_X5_setIn l dC dI cI cJ (x0 ^^^ x1) i6_24) ⟨va_cnB 2 hts gX2_begin_X5_setIn_n38 rfl rfl rfl (nm_RX2_38 hn) (hts (.initialized RX5) (by decide +kernel)) (by decide +kernel) ⟨Nat.le_of_ble_eq_true rfl, Nat.le_of_ble_eq_true rfl⟩, hts (.static yX5_setIn) (by decide +kernel), trivial⟩ hK hn (hP.sub (ws' := []) [] rfl) rfl hl.1 rfl (Nat.le_of_ble_eq_true rfl) dX2_begin_41 ⟨Nat.zero_le _, Nat.zero_le _⟩ ?_
        refine lv_if_ne (tgt := 51) hx hb dX2_begin_44 (by decide) (fun c_2 => ?_) (fun c_2 => ?_)
        · replace hf := (if_neg c_2).symm.trans hf
          refine lv_iconst (v := 1) hx hb dX2_begin_51 (by decide) ?_
          refine lv_iload hx hb dX2_begin_52 (lv_at hl 0 rfl) ?_
          refine lv_ishl hx hb dX2_begin_54 ?_
          refine lv_ior hx hb dX2_begin_55 ?_
          refine va_put (D := (dC, dI)) (ci := 2) (v := .int (N_24.2.2.2.2.2.2.1 ||| (1 <<< (i6_24 &&& 31)))) (ty := .int) (C := RX2) (T := TX2) (N := 8) hx hb hts hi2 tyX2 tyX2_ok nmX2 hown hK hP hD hS 0 rfl rfl 6 (by decide) (hts (.fieldLink RX2 35 RX2 "changed" "I") (by decide +kernel)) (fun _ h9 => h9) rfl (by decide +kernel) rfl rfl (Nat.le_of_ble_eq_true rfl) dX2_begin_56 (fun H locs hP hD hS => ?_)
          have hP : va_P (dC, dI) vwCl (wPl n0 n1 n2 n3 cI (N_24.1, N_24.2.1, N_24.2.2.1, N_24.2.2.2.1, N_24.2.2.2.2.1, N_24.2.2.2.2.2.1, N_24.2.2.2.2.2.2.1 ||| (1 <<< (i6_24 &&& 31)), N_24.2.2.2.2.2.2.2)) H := hP
          have hD : va_D A (wPl n0 n1 n2 n3 cI (N_24.1, N_24.2.1, N_24.2.2.1, N_24.2.2.2.1, N_24.2.2.2.2.1, N_24.2.2.2.2.2.1, N_24.2.2.2.2.2.2.1 ||| (1 <<< (i6_24 &&& 31)), N_24.2.2.2.2.2.2.2)) := hD
          refine lv_iinc (v := i6_24 + 1) (lv' := [(6, .int (i6_24 + 1)), (0, .ref n0), (1, .long x0), (3, .long x1), (5, .int x2)]) hx hb dX2_begin_59 hl (k := 0) rfl rfl (by decide) rfl (fun ls hl => ?_)
          refine lv_goto (tgt := 24) hx hb dX2_begin_62 (by decide) ?_
          exact ih (i6_24 + 1) (N_24.1, N_24.2.1, N_24.2.2.1, N_24.2.2.2.1, N_24.2.2.2.2.1, N_24.2.2.2.2.2.1, N_24.2.2.2.2.2.2.1 ||| (1 <<< (i6_24 &&& 31)), N_24.2.2.2.2.2.2.2) H locs ls _ (lv_sub hl [0, 1, 2, 3, 4] rfl) hP hD hS hf hex_24
        · replace hf := (if_pos c_2).symm.trans hf
          refine lv_iconst (v := 0) hx hb dX2_begin_47 (by decide) ?_
          refine lv_goto (tgt := 55) hx hb dX2_begin_48 (by decide) ?_
          refine lv_ior hx hb dX2_begin_55 ?_
          refine va_put (D := (dC, dI)) (ci := 2) (v := .int (N_24.2.2.2.2.2.2.1 ||| 0)) (ty := .int) (C := RX2) (T := TX2) (N := 8) hx hb hts hi2 tyX2 tyX2_ok nmX2 hown hK hP hD hS 0 rfl rfl 6 (by decide) (hts (.fieldLink RX2 35 RX2 "changed" "I") (by decide +kernel)) (fun _ h9 => h9) rfl (by decide +kernel) rfl rfl (Nat.le_of_ble_eq_true rfl) dX2_begin_56 (fun H locs hP hD hS => ?_)
          have hP : va_P (dC, dI) vwCl (wPl n0 n1 n2 n3 cI (N_24.1, N_24.2.1, N_24.2.2.1, N_24.2.2.2.1, N_24.2.2.2.2.1, N_24.2.2.2.2.2.1, N_24.2.2.2.2.2.2.1 ||| 0, N_24.2.2.2.2.2.2.2)) H := hP
          have hD : va_D A (wPl n0 n1 n2 n3 cI (N_24.1, N_24.2.1, N_24.2.2.1, N_24.2.2.2.1, N_24.2.2.2.2.1, N_24.2.2.2.2.2.1, N_24.2.2.2.2.2.2.1 ||| 0, N_24.2.2.2.2.2.2.2)) := hD
          refine lv_iinc (v := i6_24 + 1) (lv' := [(6, .int (i6_24 + 1)), (0, .ref n0), (1, .long x0), (3, .long x1), (5, .int x2)]) hx hb dX2_begin_59 hl (k := 0) rfl rfl (by decide) rfl (fun ls hl => ?_)
          refine lv_goto (tgt := 24) hx hb dX2_begin_62 (by decide) ?_
          exact ih (i6_24 + 1) (N_24.1, N_24.2.1, N_24.2.2.1, N_24.2.2.2.1, N_24.2.2.2.2.1, N_24.2.2.2.2.2.1, N_24.2.2.2.2.2.2.1 ||| 0, N_24.2.2.2.2.2.2.2) H locs ls _ (lv_sub hl [0, 1, 2, 3, 4] rfl) hP hD hS hf hex_24
  obtain ⟨z_3, hz_3, hf⟩ := Option.bind_eq_some_iff.mp hf
  refine L_24 1000 0 (N.1, N.2.1, N.2.2.1, x0, x1, x2, 0, N.2.2.2.2.2.2.2) H locs ls z_3 (lv_sub hl [0, 1, 2, 3, 4] rfl) hP hD hS hz_3 (fun H locs ls hl hP hD hS => ?_)
  refine lv_iconst (v := 0) hx hb dX2_begin_65 (by decide) ?_
  refine lv_istore (lv' := [(6, .int 0), (0, .ref n0), (1, .long x0), (3, .long x1), (5, .int x2)]) hx hb dX2_begin_66 hl (by decide) rfl (fun ls hl => ?_)
  have L_68 : ∀ (nn : Nat) (i6_68 : Int32) (N_68 : q_Pl) (H : Heap) (locs : List Loc) (ls : Array Slot) (z_68 : (Int32 × q_Pl)), lv_has ls 7 [(6, .int i6_68), (0, .ref n0), (1, .long x0), (3, .long x1), (5, .int x2)] → va_P (dC, dI) vwCl (wPl n0 n1 n2 n3 cI N_68) H → va_D A (wPl n0 n1 n2 n3 cI N_68) → va_S A s.heap H locs → fl_X2_begin_68  nn i6_68 N_68 = some z_68 → (∀ (H : Heap) (locs : List Loc) (ls : Array Slot), lv_has ls 7 [(6, .int z_68.1), (0, .ref n0), (1, .long x0), (3, .long x1), (5, .int x2)] → va_P (dC, dI) vwCl (wPl n0 n1 n2 n3 cI z_68.2) H → va_D A (wPl n0 n1 n2 n3 cI z_68.2) → va_S A s.heap H locs → W p l e (headSpec wsX2_begin ({ frames := 2, cells := 0, slots := 0, locals := 45 } : Room)).room s m [.ref n0, .long x0, .long x1, .int x2].toArray below meth c H locs 0 0 (MQ below (va_Qv (S := Unit) (fun _ => True) (fun _ => q_E (dC, dI) vwCl (wPl n0 n1 n2 n3 cI r0) (q_ty cI cJ) A) A) [.ref n0, .long x0, .long x1, .int x2].toArray s 0 0 A) (F0 m 92 ls [])) → W p l e (headSpec wsX2_begin ({ frames := 2, cells := 0, slots := 0, locals := 45 } : Room)).room s m [.ref n0, .long x0, .long x1, .int x2].toArray below meth c H locs 0 0 (MQ below (va_Qv (S := Unit) (fun _ => True) (fun _ => q_E (dC, dI) vwCl (wPl n0 n1 n2 n3 cI r0) (q_ty cI cJ) A) A) [.ref n0, .long x0, .long x1, .int x2].toArray s 0 0 A) (F0 m 68 ls []) := by
    intro nn
    induction nn with
    | zero =>
      intro i6_68 N_68 H locs ls z_68 hl hP hD hS hf hex_68
      rw [fl_X2_begin_68] at hf
      cases hf
    | succ nn ih =>
      intro i6_68 N_68 H locs ls z_68 hl hP hD hS hf hex_68
      rw [fl_X2_begin_68] at hf
      refine lv_iload hx hb dX2_begin_68 (lv_at hl 0 rfl) ?_
      refine lv_aload_n hx hb dX2_begin_70 rfl (lv_at hl 1 rfl) ?_
      refine va_get (D := (dC, dI)) (ci := 2) (v := .ref n1) (C := RX2) (T := TX2) (N := 8) hx hb hts hi2 hown hK hP 0 rfl rfl 0 (by decide) (hts (.fieldLink RX2 9 RX2 "stepsLeft" "[I") (by decide +kernel)) (fun _ h9 => h9) rfl dX2_begin_71 ?_
      refine va_alen (v := nI 256) hx hb hK hP 1 0 rfl rfl rfl dX2_begin_74 ?_
      refine lv_icmp_ge (tgt := 92) hx hb dX2_begin_75 (by decide) (fun c_4 => ?_) (fun c_4 => ?_)
      · replace hf := (if_pos c_4).symm.trans hf
        replace hf := Option.some.inj hf
        subst hf
        exact hex_68 H locs ls (lv_sub hl [0, 1, 2, 3, 4] rfl) hP hD hS
      · replace hf := (if_neg c_4).symm.trans hf
        refine lv_aload_n hx hb dX2_begin_78 rfl (lv_at hl 1 rfl) ?_
        refine va_get (D := (dC, dI)) (ci := 2) (v := .ref n1) (C := RX2) (T := TX2) (N := 8) hx hb hts hi2 hown hK hP 0 rfl rfl 0 (by decide) (hts (.fieldLink RX2 9 RX2 "stepsLeft" "[I") (by decide +kernel)) (fun _ h9 => h9) rfl dX2_begin_79 ?_
        refine lv_iload hx hb dX2_begin_82 (lv_at hl 0 rfl) ?_
        refine lv_iconst (v := 0) hx hb dX2_begin_84 (by decide) ?_
        by_cases nc_5 : ¬ q_ix i6_68 256 = true
        · replace hf := (if_neg nc_5).symm.trans hf
          cases hf
        have c_5 := Classical.not_not.mp nc_5
        replace hf := (if_pos c_5).symm.trans hf
        refine va_iast hx hb hK hP hD hS 1 0 rfl rfl (q_ix_in c_5) dX2_begin_85 (fun H locs hP hD hS => ?_)
        have hP : va_P (dC, dI) vwCl (wPl n0 n1 n2 n3 cI ((upd N_68.1 i6_68.toNatClampNeg 0), N_68.2.1, N_68.2.2.1, N_68.2.2.2.1, N_68.2.2.2.2.1, N_68.2.2.2.2.2.1, N_68.2.2.2.2.2.2.1, N_68.2.2.2.2.2.2.2)) H := hP
        have hD : va_D A (wPl n0 n1 n2 n3 cI ((upd N_68.1 i6_68.toNatClampNeg 0), N_68.2.1, N_68.2.2.1, N_68.2.2.2.1, N_68.2.2.2.2.1, N_68.2.2.2.2.2.1, N_68.2.2.2.2.2.2.1, N_68.2.2.2.2.2.2.2)) := hD
        refine lv_iinc (v := i6_68 + 1) (lv' := [(6, .int (i6_68 + 1)), (0, .ref n0), (1, .long x0), (3, .long x1), (5, .int x2)]) hx hb dX2_begin_86 hl (k := 0) rfl rfl (by decide) rfl (fun ls hl => ?_)
        refine lv_goto (tgt := 68) hx hb dX2_begin_89 (by decide) ?_
        exact ih (i6_68 + 1) ((upd N_68.1 i6_68.toNatClampNeg 0), N_68.2.1, N_68.2.2.1, N_68.2.2.2.1, N_68.2.2.2.2.1, N_68.2.2.2.2.2.1, N_68.2.2.2.2.2.2.1, N_68.2.2.2.2.2.2.2) H locs ls _ (lv_sub hl [0, 1, 2, 3, 4] rfl) hP hD hS hf hex_68
  obtain ⟨z_6, hz_6, hf⟩ := Option.bind_eq_some_iff.mp hf
  refine L_68 1000 0 z_3.2 H locs ls z_6 (lv_sub hl [0, 1, 2, 3, 4] rfl) hP hD hS hz_6 (fun H locs ls hl hP hD hS => ?_)
  refine lv_aload_n hx hb dX2_begin_92 rfl (lv_at hl 1 rfl) ?_
  obtain ⟨x_7, hx_7, hf⟩ := Option.bind_eq_some_iff.mp hf
  have hFc := va_free (wc := (wPl n0 n1 n2 n3 cI z_6.2)) hD hS hA [0, 1, 2, 3] rfl
  refine va_callv (va_runV (As := []) (rest := []) ⟨hx, hb, hml, hown, hts⟩ (c_X2_countDots l dC dI cI cJ n0 n1 n2 n3 H.size z_6.2 x_7 hx_7) (cwV 0 hts gX2_begin_X2_countDots rfl rfl rfl (by decide +kernel) ⟨Nat.le_of_ble_eq_true rfl, Nat.le_of_ble_eq_true rfl⟩) ⟨q_Wblind, va_recv hK hP (ci := 2) (q0 := 0) rfl rfl, q_Wpre hP hK hn hD⟩ rfl rfl hl.1 rfl (lv_room (Nat.le_of_ble_eq_true rfl)) dX2_begin_93 ⟨Nat.zero_le _, Nat.zero_le _⟩) hS (fun q _ h => hFc q h) hFc (fun u t H1 locs ht hvm hw hB hz1 hk1 hS => ?_)
  obtain ⟨hP1, hK1, hD1⟩ := hB
  rw [ht] at hP1
  obtain ⟨hP, hD⟩ := va_join (wr := []) (w1 := (wPl n0 n1 n2 n3 cI x_7)) hP hD [0, 1, 2, 3] [] rfl rfl (by decide) (by decide) hk1 hFc hP1 hD1
  generalize H1 = H at hP hS ⊢
  have hP : va_P (dC, dI) vwCl (wPl n0 n1 n2 n3 cI x_7) H := hP
  have hD : va_D A (wPl n0 n1 n2 n3 cI x_7) := hD
  replace hf := Option.some.inj hf
  subst hf
  exact W.vret hx hb hr (fun t ht hW => ⟨⟨(), rfl, trivial, ⟨by rw [ht]; exact hP, va_K.moved hW.alike hK, hD⟩⟩, hS.F ht⟩) hS.2.2 dX2_begin_96
def fl_X2_forbid_5 (x0 : Int64) (N : q_Pl) : Nat → Int32 → Int32 → Option ((q_Pl) ⊕ (Int32 × Int32))
  | 0, _, _ => none
  | nn + 1, i3_5, i4_5 => (if 8 ≤ i4_5 then some (.inr (i3_5, i4_5)) else (if (f_X5_setIn x0 i4_5) = (f_X5_setIn N.2.2.2.1 i4_5) then fl_X2_forbid_5 x0 N nn i3_5 (i4_5 + 1) else (if (f_X5_setIn x0 i4_5) = (f_X5_setIn N.2.2.2.2.1 i4_5) then fl_X2_forbid_5 x0 N nn (i3_5 ||| (1 <<< (i4_5 &&& 31))) (i4_5 + 1) else some (.inl N))))
def f_X2_forbid (N : q_Pl) (x0 : Int64) : Option (q_Pl) := ((fl_X2_forbid_5 x0 N 1000 0 0).bind fun z_4 => Sum.elim (fun r_ => some r_) (fun y_5 => some ((f_X5_put 256 N.1 y_5.1 (-1)), N.2.1, N.2.2.1, N.2.2.2.1, N.2.2.2.2.1, N.2.2.2.2.2.1, N.2.2.2.2.2.2.1, N.2.2.2.2.2.2.2)) z_4)
set_option maxHeartbeats 4000000 in
set_option maxRecDepth 100000 in
theorem c_X2_forbid (l : Launch) (dC : Nat → ClassId) (dI : Nat → Nat → Nat) (cI cJ : ClassId) (n0 : Nat) (n1 : Nat) (n2 : Nat) (n3 : Nat) (sz : Nat) (N : q_Pl) (x0 : Int64) (r0 : q_Pl) (hf : f_X2_forbid N x0 = some r0) : Met l yX2_forbid wsX2_forbid ({ frames := 1, cells := 0, slots := 0, locals := 22 } : Room) (va_Pc [.ref n0, .long x0] (q_W (dC, dI) vwCl (wPl n0 n1 n2 n3 cI N) (q_ty cI cJ) sz)) (va_Qv (S := Unit) (fun _ => True) (fun _ => q_E (dC, dI) vwCl (wPl n0 n1 n2 n3 cI r0) (q_ty cI cJ) (va_A (wPl n0 n1 n2 n3 cI N) sz)) (va_A (wPl n0 n1 n2 n3 cI N) sz)) 0 0 (va_A (wPl n0 n1 n2 n3 cI N) sz) := by
  refine Met.ofW (cc := cX2_forbid) (maxL := 6) (ret := none) (by decide) rfl ?_
  intro p e s m args below meth c s₁ BB hml hv
  obtain ⟨rfl, hsz, hP, hK, hn, hD0⟩ := hv
  have hx := BB.exec
  have hb := BB.bytes
  have hr := BB.returns
  have hts := atoms_spec (ws := wsX2_forbid) BB.pre
  have hown : s.vm.findClass RX2 = some m.cls := findClass_of_methodNamed BB.named
  have hlocks := BB.notSynchronized
  subst hsz
  have hD := hD0.self (sz := s.heap.size)
  generalize hAe : va_A (wPl n0 n1 n2 n3 cI N) s.heap.size = A at hD ⊢
  have hA : ∀ q : Nat, s.heap.size ≤ q → A q := fun q h => by rw [← hAe]; exact Or.inr h
  have hS : va_S A s.heap s.heap [] := va_S.rf
  have hi2 : ∀ w ∈ u_ws RX2 TX2 8, w ∈ wsX2_forbid := by decide +kernel
  have hl := lv_entry [.ref n0, .long x0] (n := 6) (Nat.le_of_ble_eq_true rfl)
  rw [lg_entry_eq]
  generalize (lg_sl [.ref n0, .long x0] ++ List.replicate (6 - (lg_sl [.ref n0, .long x0]).length) Slot.unset).toArray = ls at hl ⊢
  have hl : lv_has ls 6 [(0, .ref n0), (1, .long x0)] := hl
  obtain ⟨H, hH⟩ : ∃ H, H = s.heap := ⟨_, rfl⟩
  obtain ⟨locs, hlocs⟩ : ∃ x : List Loc, x = [] := ⟨_, rfl⟩
  rw [← hH] at hP
  have hS : va_S A s.heap H locs := by rw [hH, hlocs]; exact hS
  suffices hgoal : ∀ (H : Heap) (locs : List Loc), va_P (dC, dI) vwCl (wPl n0 n1 n2 n3 cI N) H → va_S A s.heap H locs → W p l e (headSpec wsX2_forbid ({ frames := 1, cells := 0, slots := 0, locals := 22 } : Room)).room s m [.ref n0, .long x0].toArray below meth c H locs 0 0 (MQ below (va_Qv (S := Unit) (fun _ => True) (fun _ => q_E (dC, dI) vwCl (wPl n0 n1 n2 n3 cI r0) (q_ty cI cJ) A) A) [.ref n0, .long x0].toArray s 0 0 A) (F0 m 0 ls []) by
    have h9 := hgoal H locs hP hS
    rw [hH, hlocs] at h9
    exact h9
  clear hP hS hH H hlocs locs
  intro H locs hP hS
  unfold f_X2_forbid at hf
  refine lv_iconst (v := 0) hx hb dX2_forbid_0 (by decide) ?_
  refine lv_istore_n (lv' := [(3, .int 0), (0, .ref n0), (1, .long x0)]) hx hb dX2_forbid_1 rfl hl (by decide) rfl (fun ls hl => ?_)
  refine lv_iconst (v := 0) hx hb dX2_forbid_2 (by decide) ?_
  refine lv_istore (lv' := [(4, .int 0), (3, .int 0), (0, .ref n0), (1, .long x0)]) hx hb dX2_forbid_3 hl (by decide) rfl (fun ls hl => ?_)
  have L_5 : ∀ (nn : Nat) (i3_5 : Int32) (i4_5 : Int32) (H : Heap) (locs : List Loc) (ls : Array Slot) (z_5 : ((q_Pl) ⊕ (Int32 × Int32))), lv_has ls 6 [(4, .int i4_5), (3, .int i3_5), (0, .ref n0), (1, .long x0)] → va_P (dC, dI) vwCl (wPl n0 n1 n2 n3 cI N) H → va_D A (wPl n0 n1 n2 n3 cI N) → va_S A s.heap H locs → fl_X2_forbid_5 x0 N nn i3_5 i4_5 = some z_5 → (∀ r_ : q_Pl, z_5 = .inl r_ → r_ = r0) → (∀ (y : Int32 × Int32) (H : Heap) (locs : List Loc) (ls : Array Slot), z_5 = .inr y → lv_has ls 6 [(4, .int y.2), (3, .int y.1), (0, .ref n0), (1, .long x0)] → va_P (dC, dI) vwCl (wPl n0 n1 n2 n3 cI N) H → va_D A (wPl n0 n1 n2 n3 cI N) → va_S A s.heap H locs → W p l e (headSpec wsX2_forbid ({ frames := 1, cells := 0, slots := 0, locals := 22 } : Room)).room s m [.ref n0, .long x0].toArray below meth c H locs 0 0 (MQ below (va_Qv (S := Unit) (fun _ => True) (fun _ => q_E (dC, dI) vwCl (wPl n0 n1 n2 n3 cI r0) (q_ty cI cJ) A) A) [.ref n0, .long x0].toArray s 0 0 A) (F0 m 62 ls [])) → W p l e (headSpec wsX2_forbid ({ frames := 1, cells := 0, slots := 0, locals := 22 } : Room)).room s m [.ref n0, .long x0].toArray below meth c H locs 0 0 (MQ below (va_Qv (S := Unit) (fun _ => True) (fun _ => q_E (dC, dI) vwCl (wPl n0 n1 n2 n3 cI r0) (q_ty cI cJ) A) A) [.ref n0, .long x0].toArray s 0 0 A) (F0 m 5 ls []) := by
    intro nn
    induction nn with
    | zero =>
      intro i3_5 i4_5 H locs ls z_5 hl hP hD hS hf hret_5 hex_5
      rw [fl_X2_forbid_5] at hf
      cases hf
    | succ nn ih =>
      intro i3_5 i4_5 H locs ls z_5 hl hP hD hS hf hret_5 hex_5
      rw [fl_X2_forbid_5] at hf
      refine lv_iload hx hb dX2_forbid_5 (lv_at hl 0 rfl) ?_
      refine lv_bipush (v := 8) hx hb dX2_forbid_7 (by decide) ?_
      refine lv_icmp_ge (tgt := 62) hx hb dX2_forbid_9 (by decide) (fun c_1 => ?_) (fun c_1 => ?_)
      · replace hf := (if_pos c_1).symm.trans hf
        exact hex_5 (i3_5, i4_5) H locs ls (Option.some.inj hf).symm (lv_sub hl [0, 1, 2, 3] rfl) hP hD hS
      · replace hf := (if_neg c_1).symm.trans hf
        refine lv_lload_n hx hb dX2_forbid_12 rfl (lv_at hl 3 rfl) ?_
        refine lv_iload hx hb dX2_forbid_13 (lv_at hl 0 rfl) ?_
        refine q_rSN (As := [.long x0, .int i4_5]) (rest := []) ⟨hx, hb, hml, hown, hts⟩ (c_X5_setIn l dC dI cI cJ x0 i4_5) ⟨va_cnB 2 hts gX2_forbid_X5_setIn_n38 rfl rfl rfl (nm_RX2_38 hn) (hts (.initialized RX5) (by decide +kernel)) (by decide +kernel) ⟨Nat.le_of_ble_eq_true rfl, Nat.le_of_ble_eq_true rfl⟩, hts (.static yX5_setIn) (by decide +kernel), trivial⟩ hK hn (hP.sub (ws' := []) [] rfl) rfl hl.1 rfl (Nat.le_of_ble_eq_true rfl) dX2_forbid_15 ⟨Nat.zero_le _, Nat.zero_le _⟩ ?_
        refine lv_istore (lv' := [(5, .int (f_X5_setIn x0 i4_5)), (4, .int i4_5), (3, .int i3_5), (0, .ref n0), (1, .long x0)]) hx hb dX2_forbid_18 hl (by decide) rfl (fun ls hl => ?_)
        refine lv_iload hx hb dX2_forbid_20 (lv_at hl 0 rfl) ?_
        refine lv_aload_n hx hb dX2_forbid_22 rfl (lv_at hl 3 rfl) ?_
        refine va_get (D := (dC, dI)) (ci := 2) (v := .long N.2.2.2.1) (C := RX2) (T := TX2) (N := 8) hx hb hts hi2 hown hK hP 0 rfl rfl 3 (by decide) (hts (.fieldLink RX2 25 RX2 "start" "J") (by decide +kernel)) (fun _ h9 => h9) rfl dX2_forbid_23 ?_
        refine lv_iload hx hb dX2_forbid_26 (lv_at hl 1 rfl) ?_
        refine q_rSN (As := [.long N.2.2.2.1, .int i4_5]) (rest := [.int (f_X5_setIn x0 i4_5)]) ⟨hx, hb, hml, hown, hts⟩ (c_X5_setIn l dC dI cI cJ N.2.2.2.1 i4_5) ⟨va_cnB 2 hts gX2_forbid_X5_setIn_n38 rfl rfl rfl (nm_RX2_38 hn) (hts (.initialized RX5) (by decide +kernel)) (by decide +kernel) ⟨Nat.le_of_ble_eq_true rfl, Nat.le_of_ble_eq_true rfl⟩, hts (.static yX5_setIn) (by decide +kernel), trivial⟩ hK hn (hP.sub (ws' := []) [] rfl) rfl hl.1 rfl (Nat.le_of_ble_eq_true rfl) dX2_forbid_28 ⟨Nat.zero_le _, Nat.zero_le _⟩ ?_
        refine lv_icmp_eq (tgt := 56) hx hb dX2_forbid_31 (by decide) (fun c_2 => ?_) (fun c_2 => ?_)
        · replace hf := (if_pos c_2).symm.trans hf
          refine lv_iinc (v := i4_5 + 1) (lv' := [(4, .int (i4_5 + 1)), (5, .int (f_X5_setIn x0 i4_5)), (3, .int i3_5), (0, .ref n0), (1, .long x0)]) hx hb dX2_forbid_56 hl (k := 1) rfl rfl (by decide) rfl (fun ls hl => ?_)
          refine lv_goto (tgt := 5) hx hb dX2_forbid_59 (by decide) ?_
          exact ih i3_5 (i4_5 + 1) H locs ls _ (lv_sub hl [0, 2, 3, 4] rfl) hP hD hS hf hret_5 hex_5
        · replace hf := (if_neg c_2).symm.trans hf
          refine lv_iload hx hb dX2_forbid_34 (lv_at hl 0 rfl) ?_
          refine lv_aload_n hx hb dX2_forbid_36 rfl (lv_at hl 3 rfl) ?_
          refine va_get (D := (dC, dI)) (ci := 2) (v := .long N.2.2.2.2.1) (C := RX2) (T := TX2) (N := 8) hx hb hts hi2 hown hK hP 0 rfl rfl 4 (by decide) (hts (.fieldLink RX2 29 RX2 "goal" "J") (by decide +kernel)) (fun _ h9 => h9) rfl dX2_forbid_37 ?_
          refine lv_iload hx hb dX2_forbid_40 (lv_at hl 1 rfl) ?_
          refine q_rSN (As := [.long N.2.2.2.2.1, .int i4_5]) (rest := [.int (f_X5_setIn x0 i4_5)]) ⟨hx, hb, hml, hown, hts⟩ (c_X5_setIn l dC dI cI cJ N.2.2.2.2.1 i4_5) ⟨va_cnB 2 hts gX2_forbid_X5_setIn_n38 rfl rfl rfl (nm_RX2_38 hn) (hts (.initialized RX5) (by decide +kernel)) (by decide +kernel) ⟨Nat.le_of_ble_eq_true rfl, Nat.le_of_ble_eq_true rfl⟩, hts (.static yX5_setIn) (by decide +kernel), trivial⟩ hK hn (hP.sub (ws' := []) [] rfl) rfl hl.1 rfl (Nat.le_of_ble_eq_true rfl) dX2_forbid_42 ⟨Nat.zero_le _, Nat.zero_le _⟩ ?_
          refine lv_icmp_eq (tgt := 49) hx hb dX2_forbid_45 (by decide) (fun c_3 => ?_) (fun c_3 => ?_)
          · replace hf := (if_pos c_3).symm.trans hf
            refine lv_iload_n hx hb dX2_forbid_49 rfl (lv_at hl 2 rfl) ?_
            refine lv_iconst (v := 1) hx hb dX2_forbid_50 (by decide) ?_
            refine lv_iload hx hb dX2_forbid_51 (lv_at hl 1 rfl) ?_
            refine lv_ishl hx hb dX2_forbid_53 ?_
            refine lv_ior hx hb dX2_forbid_54 ?_
            refine lv_istore_n (lv' := [(3, .int (i3_5 ||| (1 <<< (i4_5 &&& 31)))), (5, .int (f_X5_setIn x0 i4_5)), (4, .int i4_5), (0, .ref n0), (1, .long x0)]) hx hb dX2_forbid_55 rfl hl (by decide) rfl (fun ls hl => ?_)
            refine lv_iinc (v := i4_5 + 1) (lv' := [(4, .int (i4_5 + 1)), (3, .int (i3_5 ||| (1 <<< (i4_5 &&& 31)))), (5, .int (f_X5_setIn x0 i4_5)), (0, .ref n0), (1, .long x0)]) hx hb dX2_forbid_56 hl (k := 2) rfl rfl (by decide) rfl (fun ls hl => ?_)
            refine lv_goto (tgt := 5) hx hb dX2_forbid_59 (by decide) ?_
            exact ih (i3_5 ||| (1 <<< (i4_5 &&& 31))) (i4_5 + 1) H locs ls _ (lv_sub hl [0, 1, 3, 4] rfl) hP hD hS hf hret_5 hex_5
          · replace hf := (if_neg c_3).symm.trans hf
            replace hf := hret_5 N (Option.some.inj hf).symm
            subst hf
            exact W.vret hx hb hr (fun t ht hW => ⟨⟨(), rfl, trivial, ⟨by rw [ht]; exact hP, va_K.moved hW.alike hK, hD⟩⟩, hS.F ht⟩) hS.2.2 dX2_forbid_48
  obtain ⟨z_4, hz_4, hf⟩ := Option.bind_eq_some_iff.mp hf
  refine L_5 1000 0 0 H locs ls z_4 (lv_sub hl [0, 1, 2, 3] rfl) hP hD hS hz_4 (fun r_ hz => by rw [hz] at hf; exact Option.some.inj hf) (fun y_5 H locs ls hz hl hP hD hS => ?_)
  subst hz
  simp only [Sum.elim_inr] at hf
  refine lv_aload_n hx hb dX2_forbid_62 rfl (lv_at hl 2 rfl) ?_
  refine va_get (D := (dC, dI)) (ci := 2) (v := .ref n1) (C := RX2) (T := TX2) (N := 8) hx hb hts hi2 hown hK hP 0 rfl rfl 0 (by decide) (hts (.fieldLink RX2 9 RX2 "stepsLeft" "[I") (by decide +kernel)) (fun _ h9 => h9) rfl dX2_forbid_63 ?_
  refine lv_iload_n hx hb dX2_forbid_66 rfl (lv_at hl 1 rfl) ?_
  refine lv_iconst (v := (-1)) hx hb dX2_forbid_67 (by decide) ?_
  have hPc := hP.sub (ws' := [(n1, .inl (cI, 256, .inl N.1))]) [1] rfl
  have hDc := hD.sub (ws' := [(n1, .inl (cI, 256, .inl N.1))]) [1] (by decide) rfl
  have hFc := va_free (wc := [(n1, .inl (cI, 256, .inl N.1))]) hD hS hA [1] rfl
  refine va_callv (va_runSN (As := [.ref n1, .int y_5.1, .int (-1)]) (rest := []) ⟨hx, hb, hml, hown, hts⟩ (c_X5_put l dC dI cI cJ n1 H.size 256 N.1 (by decide) y_5.1 (-1)) ⟨va_cnB 3 hts gX2_forbid_X5_put_n55 rfl rfl rfl (nm_RX2_55 hn) (hts (.initialized RX5) (by decide +kernel)) (by decide +kernel) ⟨Nat.le_of_ble_eq_true rfl, Nat.le_of_ble_eq_true rfl⟩, hts (.static yX5_put) (by decide +kernel), trivial⟩ ⟨q_Wblind, q_Wpre hPc hK hn hDc⟩ rfl rfl hl.1 rfl (lv_room (Nat.le_of_ble_eq_true rfl)) dX2_forbid_68 ⟨Nat.zero_le _, Nat.zero_le _⟩) hS (fun q _ h => hFc q h) hFc (fun u t H1 locs ht hvm hw hB hz1 hk1 hS => ?_)
  obtain ⟨hP1, hK1, hD1⟩ := hB
  rw [ht] at hP1
  obtain ⟨hP, hD⟩ := va_join (wr := [(n0, .inr (2, [.ref n1, .ref n2, .ref n3, .long N.2.2.2.1, .long N.2.2.2.2.1, .int N.2.2.2.2.2.1, .int N.2.2.2.2.2.2.1, .int N.2.2.2.2.2.2.2])), (n2, .inl (cI, 256, .inl N.2.1)), (n3, .inl (cI, 8, .inl N.2.2.1))]) (w1 := [(n1, .inl (cI, 256, .inl (f_X5_put 256 N.1 y_5.1 (-1))))]) hP hD [1] [0, 2, 3] rfl rfl (by decide) (by decide) hk1 hFc hP1 hD1
  generalize H1 = H at hP hS ⊢
  replace hP := hP.sub (ws' := (wPl n0 n1 n2 n3 cI ((f_X5_put 256 N.1 y_5.1 (-1)), N.2.1, N.2.2.1, N.2.2.2.1, N.2.2.2.2.1, N.2.2.2.2.2.1, N.2.2.2.2.2.2.1, N.2.2.2.2.2.2.2))) [0, 3, 1, 2] rfl
  replace hD := hD.sub (ws' := (wPl n0 n1 n2 n3 cI ((f_X5_put 256 N.1 y_5.1 (-1)), N.2.1, N.2.2.1, N.2.2.2.1, N.2.2.2.2.1, N.2.2.2.2.2.1, N.2.2.2.2.2.2.1, N.2.2.2.2.2.2.2))) [0, 3, 1, 2] (by decide) rfl
  have hP : va_P (dC, dI) vwCl (wPl n0 n1 n2 n3 cI ((f_X5_put 256 N.1 y_5.1 (-1)), N.2.1, N.2.2.1, N.2.2.2.1, N.2.2.2.2.1, N.2.2.2.2.2.1, N.2.2.2.2.2.2.1, N.2.2.2.2.2.2.2)) H := hP
  have hD : va_D A (wPl n0 n1 n2 n3 cI ((f_X5_put 256 N.1 y_5.1 (-1)), N.2.1, N.2.2.1, N.2.2.2.1, N.2.2.2.2.1, N.2.2.2.2.2.1, N.2.2.2.2.2.2.1, N.2.2.2.2.2.2.2)) := hD
  replace hf := Option.some.inj hf
  subst hf
  exact W.vret hx hb hr (fun t ht hW => ⟨⟨(), rfl, trivial, ⟨by rw [ht]; exact hP, va_K.moved hW.alike hK, hD⟩⟩, hS.F ht⟩) hS.2.2 dX2_forbid_71
def f_X2_canBeOneStep (N : q_Pl) (x0 : Int32) : Int32 := (if (x0 &&& (x0 - 1)) = 0 then (if (1 : Int32) = 0 then (if x0 ≤ 0 then 0 else (if (nI 256) ≤ x0 then 0 else (if N.2.2.2.2.2.1 < (N.2.1 x0.toNatClampNeg) then 0 else 1))) else 1) else (if (0 : Int32) = 0 then (if x0 ≤ 0 then 0 else (if (nI 256) ≤ x0 then 0 else (if N.2.2.2.2.2.1 < (N.2.1 x0.toNatClampNeg) then 0 else 1))) else 1))
set_option maxHeartbeats 4000000 in
set_option maxRecDepth 100000 in
theorem c_X2_canBeOneStep (l : Launch) (dC : Nat → ClassId) (dI : Nat → Nat → Nat) (cI cJ : ClassId) (n0 : Nat) (n1 : Nat) (n2 : Nat) (n3 : Nat) (N : q_Pl) (x0 : Int32) : Met l yX2_canBeOneStep wsX2_canBeOneStep ({ frames := 0, cells := 0, slots := 0, locals := 0 } : Room) (va_Pc [.ref n0, .int x0] (q_B (dC, dI) vwCl (wPl n0 n1 n2 n3 cI N) (q_ty cI cJ))) (k2_QcV (.int (f_X2_canBeOneStep N x0))) 0 0 (fun _ => False) := by
  refine Met.ofW (cc := cX2_canBeOneStep) (maxL := 3) (ret := (some .boolean)) (by decide) rfl ?_
  intro p e s m args below meth c s₁ BB hml hv
  obtain ⟨rfl, hP, hK, hn⟩ := hv
  have hx := BB.exec
  have hb := BB.bytes
  have hr := BB.returns
  have hts := atoms_spec (ws := wsX2_canBeOneStep) BB.pre
  have hown : s.vm.findClass RX2 = some m.cls := findClass_of_methodNamed BB.named
  have hlocks := BB.notSynchronized
  have hi2 : ∀ w ∈ u_ws RX2 TX2 8, w ∈ wsX2_canBeOneStep := by decide +kernel
  have hl := lv_entry [.ref n0, .int x0] (n := 3) (Nat.le_of_ble_eq_true rfl)
  rw [lg_entry_eq]
  generalize (lg_sl [.ref n0, .int x0] ++ List.replicate (3 - (lg_sl [.ref n0, .int x0]).length) Slot.unset).toArray = ls at hl ⊢
  have hl : lv_has ls 3 [(0, .ref n0), (1, .int x0)] := hl
  generalize hf : f_X2_canBeOneStep N x0 = r0
  unfold f_X2_canBeOneStep at hf
  refine lv_iload_n hx hb dX2_canBeOneStep_0 rfl (lv_at hl 1 rfl) ?_
  refine lv_iload_n hx hb dX2_canBeOneStep_1 rfl (lv_at hl 1 rfl) ?_
  refine lv_iconst (v := 1) hx hb dX2_canBeOneStep_2 (by decide) ?_
  refine lv_isub hx hb dX2_canBeOneStep_3 ?_
  refine lv_iand hx hb dX2_canBeOneStep_4 ?_
  refine lv_if_ne (tgt := 12) hx hb dX2_canBeOneStep_5 (by decide) (fun c_1 => ?_) (fun c_1 => ?_)
  · replace hf := (if_neg c_1).symm.trans hf
    refine lv_iconst (v := 0) hx hb dX2_canBeOneStep_12 (by decide) ?_
    refine lv_istore_n (lv' := [(2, .int 0), (0, .ref n0), (1, .int x0)]) hx hb dX2_canBeOneStep_13 rfl hl (by decide) rfl (fun ls hl => ?_)
    refine lv_iload_n hx hb dX2_canBeOneStep_14 rfl (lv_at hl 0 rfl) ?_
    refine lv_if_ne (tgt := 44) hx hb dX2_canBeOneStep_15 (by decide) (fun c_2 => ?_) (fun c_2 => ?_)
    · replace hf := (if_neg c_2).symm.trans hf
      refine lv_iconst (v := 1) hx hb dX2_canBeOneStep_44 (by decide) ?_
      refine lv_goto (tgt := 49) hx hb dX2_canBeOneStep_45 (by decide) ?_
      exact W.zret (v := 1) (ty := .boolean) hx hb hr rfl (fun t ht hW => ⟨congrArg (fun z => Outcome.returned (some (.int z))) hf, ht⟩) (fun q h => absurd h List.not_mem_nil) dX2_canBeOneStep_49
    · replace hf := (if_pos c_2).symm.trans hf
      refine lv_iload_n hx hb dX2_canBeOneStep_18 rfl (lv_at hl 2 rfl) ?_
      refine lv_if_le (tgt := 48) hx hb dX2_canBeOneStep_19 (by decide) (fun c_3 => ?_) (fun c_3 => ?_)
      · replace hf := (if_pos c_3).symm.trans hf
        refine lv_iconst (v := 0) hx hb dX2_canBeOneStep_48 (by decide) ?_
        exact W.zret (v := 0) (ty := .boolean) hx hb hr rfl (fun t ht hW => ⟨congrArg (fun z => Outcome.returned (some (.int z))) hf, ht⟩) (fun q h => absurd h List.not_mem_nil) dX2_canBeOneStep_49
      · replace hf := (if_neg c_3).symm.trans hf
        refine lv_iload_n hx hb dX2_canBeOneStep_22 rfl (lv_at hl 2 rfl) ?_
        refine lv_aload_n hx hb dX2_canBeOneStep_23 rfl (lv_at hl 1 rfl) ?_
        refine va_get (D := (dC, dI)) (ci := 2) (v := .ref n2) (C := RX2) (T := TX2) (N := 8) hx hb hts hi2 hown hK hP 0 rfl rfl 1 (by decide) (hts (.fieldLink RX2 15 RX2 "dotsIn" "[I") (by decide +kernel)) (fun _ h9 => h9) rfl dX2_canBeOneStep_24 ?_
        refine va_alen (v := nI 256) hx hb hK hP 2 0 rfl rfl rfl dX2_canBeOneStep_27 ?_
        refine lv_icmp_ge (tgt := 48) hx hb dX2_canBeOneStep_28 (by decide) (fun c_4 => ?_) (fun c_4 => ?_)
        · replace hf := (if_pos c_4).symm.trans hf
          refine lv_iconst (v := 0) hx hb dX2_canBeOneStep_48 (by decide) ?_
          exact W.zret (v := 0) (ty := .boolean) hx hb hr rfl (fun t ht hW => ⟨congrArg (fun z => Outcome.returned (some (.int z))) hf, ht⟩) (fun q h => absurd h List.not_mem_nil) dX2_canBeOneStep_49
        · replace hf := (if_neg c_4).symm.trans hf
          refine lv_aload_n hx hb dX2_canBeOneStep_31 rfl (lv_at hl 1 rfl) ?_
          refine va_get (D := (dC, dI)) (ci := 2) (v := .ref n2) (C := RX2) (T := TX2) (N := 8) hx hb hts hi2 hown hK hP 0 rfl rfl 1 (by decide) (hts (.fieldLink RX2 15 RX2 "dotsIn" "[I") (by decide +kernel)) (fun _ h9 => h9) rfl dX2_canBeOneStep_32 ?_
          refine lv_iload_n hx hb dX2_canBeOneStep_35 rfl (lv_at hl 2 rfl) ?_
          refine va_iald hx hb hK hP 2 0 rfl rfl (q_in (q_gt0 c_3) c_4 (by decide)) dX2_canBeOneStep_36 ?_
          refine lv_aload_n hx hb dX2_canBeOneStep_37 rfl (lv_at hl 1 rfl) ?_
          refine va_get (D := (dC, dI)) (ci := 2) (v := .int N.2.2.2.2.2.1) (C := RX2) (T := TX2) (N := 8) hx hb hts hi2 hown hK hP 0 rfl rfl 5 (by decide) (hts (.fieldLink RX2 32 RX2 "power" "I") (by decide +kernel)) (fun _ h9 => h9) rfl dX2_canBeOneStep_38 ?_
          refine lv_icmp_gt (tgt := 48) hx hb dX2_canBeOneStep_41 (by decide) (fun c_5 => ?_) (fun c_5 => ?_)
          · replace hf := (if_pos c_5).symm.trans hf
            refine lv_iconst (v := 0) hx hb dX2_canBeOneStep_48 (by decide) ?_
            exact W.zret (v := 0) (ty := .boolean) hx hb hr rfl (fun t ht hW => ⟨congrArg (fun z => Outcome.returned (some (.int z))) hf, ht⟩) (fun q h => absurd h List.not_mem_nil) dX2_canBeOneStep_49
          · replace hf := (if_neg c_5).symm.trans hf
            refine lv_iconst (v := 1) hx hb dX2_canBeOneStep_44 (by decide) ?_
            refine lv_goto (tgt := 49) hx hb dX2_canBeOneStep_45 (by decide) ?_
            exact W.zret (v := 1) (ty := .boolean) hx hb hr rfl (fun t ht hW => ⟨congrArg (fun z => Outcome.returned (some (.int z))) hf, ht⟩) (fun q h => absurd h List.not_mem_nil) dX2_canBeOneStep_49
  · replace hf := (if_pos c_1).symm.trans hf
    refine lv_iconst (v := 1) hx hb dX2_canBeOneStep_8 (by decide) ?_
    refine lv_goto (tgt := 13) hx hb dX2_canBeOneStep_9 (by decide) ?_
    refine lv_istore_n (lv' := [(2, .int 1), (0, .ref n0), (1, .int x0)]) hx hb dX2_canBeOneStep_13 rfl hl (by decide) rfl (fun ls hl => ?_)
    refine lv_iload_n hx hb dX2_canBeOneStep_14 rfl (lv_at hl 0 rfl) ?_
    refine lv_if_ne (tgt := 44) hx hb dX2_canBeOneStep_15 (by decide) (fun c_6 => ?_) (fun c_6 => ?_)
    · replace hf := (if_neg c_6).symm.trans hf
      refine lv_iconst (v := 1) hx hb dX2_canBeOneStep_44 (by decide) ?_
      refine lv_goto (tgt := 49) hx hb dX2_canBeOneStep_45 (by decide) ?_
      exact W.zret (v := 1) (ty := .boolean) hx hb hr rfl (fun t ht hW => ⟨congrArg (fun z => Outcome.returned (some (.int z))) hf, ht⟩) (fun q h => absurd h List.not_mem_nil) dX2_canBeOneStep_49
    · replace hf := (if_pos c_6).symm.trans hf
      refine lv_iload_n hx hb dX2_canBeOneStep_18 rfl (lv_at hl 2 rfl) ?_
      refine lv_if_le (tgt := 48) hx hb dX2_canBeOneStep_19 (by decide) (fun c_7 => ?_) (fun c_7 => ?_)
      · replace hf := (if_pos c_7).symm.trans hf
        refine lv_iconst (v := 0) hx hb dX2_canBeOneStep_48 (by decide) ?_
        exact W.zret (v := 0) (ty := .boolean) hx hb hr rfl (fun t ht hW => ⟨congrArg (fun z => Outcome.returned (some (.int z))) hf, ht⟩) (fun q h => absurd h List.not_mem_nil) dX2_canBeOneStep_49
      · replace hf := (if_neg c_7).symm.trans hf
        refine lv_iload_n hx hb dX2_canBeOneStep_22 rfl (lv_at hl 2 rfl) ?_
        refine lv_aload_n hx hb dX2_canBeOneStep_23 rfl (lv_at hl 1 rfl) ?_
        refine va_get (D := (dC, dI)) (ci := 2) (v := .ref n2) (C := RX2) (T := TX2) (N := 8) hx hb hts hi2 hown hK hP 0 rfl rfl 1 (by decide) (hts (.fieldLink RX2 15 RX2 "dotsIn" "[I") (by decide +kernel)) (fun _ h9 => h9) rfl dX2_canBeOneStep_24 ?_
        refine va_alen (v := nI 256) hx hb hK hP 2 0 rfl rfl rfl dX2_canBeOneStep_27 ?_
        refine lv_icmp_ge (tgt := 48) hx hb dX2_canBeOneStep_28 (by decide) (fun c_8 => ?_) (fun c_8 => ?_)
        · replace hf := (if_pos c_8).symm.trans hf
          refine lv_iconst (v := 0) hx hb dX2_canBeOneStep_48 (by decide) ?_
          exact W.zret (v := 0) (ty := .boolean) hx hb hr rfl (fun t ht hW => ⟨congrArg (fun z => Outcome.returned (some (.int z))) hf, ht⟩) (fun q h => absurd h List.not_mem_nil) dX2_canBeOneStep_49
        · replace hf := (if_neg c_8).symm.trans hf
          refine lv_aload_n hx hb dX2_canBeOneStep_31 rfl (lv_at hl 1 rfl) ?_
          refine va_get (D := (dC, dI)) (ci := 2) (v := .ref n2) (C := RX2) (T := TX2) (N := 8) hx hb hts hi2 hown hK hP 0 rfl rfl 1 (by decide) (hts (.fieldLink RX2 15 RX2 "dotsIn" "[I") (by decide +kernel)) (fun _ h9 => h9) rfl dX2_canBeOneStep_32 ?_
          refine lv_iload_n hx hb dX2_canBeOneStep_35 rfl (lv_at hl 2 rfl) ?_
          refine va_iald hx hb hK hP 2 0 rfl rfl (q_in (q_gt0 c_7) c_8 (by decide)) dX2_canBeOneStep_36 ?_
          refine lv_aload_n hx hb dX2_canBeOneStep_37 rfl (lv_at hl 1 rfl) ?_
          refine va_get (D := (dC, dI)) (ci := 2) (v := .int N.2.2.2.2.2.1) (C := RX2) (T := TX2) (N := 8) hx hb hts hi2 hown hK hP 0 rfl rfl 5 (by decide) (hts (.fieldLink RX2 32 RX2 "power" "I") (by decide +kernel)) (fun _ h9 => h9) rfl dX2_canBeOneStep_38 ?_
          refine lv_icmp_gt (tgt := 48) hx hb dX2_canBeOneStep_41 (by decide) (fun c_9 => ?_) (fun c_9 => ?_)
          · replace hf := (if_pos c_9).symm.trans hf
            refine lv_iconst (v := 0) hx hb dX2_canBeOneStep_48 (by decide) ?_
            exact W.zret (v := 0) (ty := .boolean) hx hb hr rfl (fun t ht hW => ⟨congrArg (fun z => Outcome.returned (some (.int z))) hf, ht⟩) (fun q h => absurd h List.not_mem_nil) dX2_canBeOneStep_49
          · replace hf := (if_neg c_9).symm.trans hf
            refine lv_iconst (v := 1) hx hb dX2_canBeOneStep_44 (by decide) ?_
            refine lv_goto (tgt := 49) hx hb dX2_canBeOneStep_45 (by decide) ?_
            exact W.zret (v := 1) (ty := .boolean) hx hb hr rfl (fun t ht hW => ⟨congrArg (fun z => Outcome.returned (some (.int z))) hf, ht⟩) (fun q h => absurd h List.not_mem_nil) dX2_canBeOneStep_49
def fl_X2_fewestFrom_14 (x0 : Int32) (N : q_Pl) : Nat → Int32 → Int32 → Option (Int32 × Int32)
  | 0, _, _ => none
  | nn + 1, i3_14, i4_14 => (if i4_14 ≤ 0 then some (i3_14, i4_14) else (if (f_X5_at 256 N.1 (x0 ||| i4_14)) = (-1) then fl_X2_fewestFrom_14 x0 N nn i3_14 ((i4_14 - 1) &&& (N.2.2.2.2.2.2.1 &&& (x0 ^^^ (-1)))) else (if i3_14 = (-1) then (if (f_X2_canBeOneStep N i4_14) = 0 then fl_X2_fewestFrom_14 x0 N nn i3_14 ((i4_14 - 1) &&& (N.2.2.2.2.2.2.1 &&& (x0 ^^^ (-1)))) else fl_X2_fewestFrom_14 x0 N nn ((f_X5_at 256 N.1 (x0 ||| i4_14)) + 1) ((i4_14 - 1) &&& (N.2.2.2.2.2.2.1 &&& (x0 ^^^ (-1))))) else (if i3_14 ≤ ((f_X5_at 256 N.1 (x0 ||| i4_14)) + 1) then fl_X2_fewestFrom_14 x0 N nn i3_14 ((i4_14 - 1) &&& (N.2.2.2.2.2.2.1 &&& (x0 ^^^ (-1)))) else (if (f_X2_canBeOneStep N i4_14) = 0 then fl_X2_fewestFrom_14 x0 N nn i3_14 ((i4_14 - 1) &&& (N.2.2.2.2.2.2.1 &&& (x0 ^^^ (-1)))) else fl_X2_fewestFrom_14 x0 N nn ((f_X5_at 256 N.1 (x0 ||| i4_14)) + 1) ((i4_14 - 1) &&& (N.2.2.2.2.2.2.1 &&& (x0 ^^^ (-1)))))))))
def f_X2_fewestFrom (N : q_Pl) (x0 : Int32) : Option (Int32) := ((fl_X2_fewestFrom_14 x0 N 1000 (-1) (N.2.2.2.2.2.2.1 &&& (x0 ^^^ (-1)))).bind fun z_7 => some z_7.1)
set_option maxHeartbeats 4000000 in
set_option maxRecDepth 100000 in
theorem c_X2_fewestFrom (l : Launch) (dC : Nat → ClassId) (dI : Nat → Nat → Nat) (cI cJ : ClassId) (n0 : Nat) (n1 : Nat) (n2 : Nat) (n3 : Nat) (N : q_Pl) (x0 : Int32) (r0 : Int32) (hf : f_X2_fewestFrom N x0 = some r0) : Met l yX2_fewestFrom wsX2_fewestFrom ({ frames := 1, cells := 0, slots := 0, locals := 22 } : Room) (va_Pc [.ref n0, .int x0] (q_B (dC, dI) vwCl (wPl n0 n1 n2 n3 cI N) (q_ty cI cJ))) (k2_QcV (.int r0)) 0 0 (fun _ => False) := by
  refine Met.ofW (cc := cX2_fewestFrom) (maxL := 6) (ret := (some .int)) (by decide) rfl ?_
  intro p e s m args below meth c s₁ BB hml hv
  obtain ⟨rfl, hP, hK, hn⟩ := hv
  have hx := BB.exec
  have hb := BB.bytes
  have hr := BB.returns
  have hts := atoms_spec (ws := wsX2_fewestFrom) BB.pre
  have hown : s.vm.findClass RX2 = some m.cls := findClass_of_methodNamed BB.named
  have hlocks := BB.notSynchronized
  have hi2 : ∀ w ∈ u_ws RX2 TX2 8, w ∈ wsX2_fewestFrom := by decide +kernel
  have hl := lv_entry [.ref n0, .int x0] (n := 6) (Nat.le_of_ble_eq_true rfl)
  rw [lg_entry_eq]
  generalize (lg_sl [.ref n0, .int x0] ++ List.replicate (6 - (lg_sl [.ref n0, .int x0]).length) Slot.unset).toArray = ls at hl ⊢
  have hl : lv_has ls 6 [(0, .ref n0), (1, .int x0)] := hl
  unfold f_X2_fewestFrom at hf
  refine lv_aload_n hx hb dX2_fewestFrom_0 rfl (lv_at hl 0 rfl) ?_
  refine va_get (D := (dC, dI)) (ci := 2) (v := .int N.2.2.2.2.2.2.1) (C := RX2) (T := TX2) (N := 8) hx hb hts hi2 hown hK hP 0 rfl rfl 6 (by decide) (hts (.fieldLink RX2 35 RX2 "changed" "I") (by decide +kernel)) (fun _ h9 => h9) rfl dX2_fewestFrom_1 ?_
  refine lv_iload_n hx hb dX2_fewestFrom_4 rfl (lv_at hl 1 rfl) ?_
  refine lv_iconst (v := (-1)) hx hb dX2_fewestFrom_5 (by decide) ?_
  refine lv_ixor hx hb dX2_fewestFrom_6 ?_
  refine lv_iand hx hb dX2_fewestFrom_7 ?_
  refine lv_istore_n (lv' := [(2, .int (N.2.2.2.2.2.2.1 &&& (x0 ^^^ (-1)))), (0, .ref n0), (1, .int x0)]) hx hb dX2_fewestFrom_8 rfl hl (by decide) rfl (fun ls hl => ?_)
  refine lv_iconst (v := (-1)) hx hb dX2_fewestFrom_9 (by decide) ?_
  refine lv_istore_n (lv' := [(3, .int (-1)), (2, .int (N.2.2.2.2.2.2.1 &&& (x0 ^^^ (-1)))), (0, .ref n0), (1, .int x0)]) hx hb dX2_fewestFrom_10 rfl hl (by decide) rfl (fun ls hl => ?_)
  refine lv_iload_n hx hb dX2_fewestFrom_11 rfl (lv_at hl 1 rfl) ?_
  refine lv_istore (lv' := [(4, .int (N.2.2.2.2.2.2.1 &&& (x0 ^^^ (-1)))), (3, .int (-1)), (2, .int (N.2.2.2.2.2.2.1 &&& (x0 ^^^ (-1)))), (0, .ref n0), (1, .int x0)]) hx hb dX2_fewestFrom_12 hl (by decide) rfl (fun ls hl => ?_)
  have L_14 : ∀ (nn : Nat) (i3_14 : Int32) (i4_14 : Int32) (ls : Array Slot) (z_14 : (Int32 × Int32)), lv_has ls 6 [(4, .int i4_14), (3, .int i3_14), (2, .int (N.2.2.2.2.2.2.1 &&& (x0 ^^^ (-1)))), (0, .ref n0), (1, .int x0)] → fl_X2_fewestFrom_14 x0 N nn i3_14 i4_14 = some z_14 → (∀ (ls : Array Slot), lv_has ls 6 [(4, .int z_14.2), (3, .int z_14.1), (2, .int (N.2.2.2.2.2.2.1 &&& (x0 ^^^ (-1)))), (0, .ref n0), (1, .int x0)] → W p l e (headSpec wsX2_fewestFrom ({ frames := 1, cells := 0, slots := 0, locals := 22 } : Room)).room s m [.ref n0, .int x0].toArray below meth c s.heap [] 0 0 (MQ below (k2_QcV (.int r0)) [.ref n0, .int x0].toArray s 0 0 (fun _ => False)) (F0 m 76 ls [])) → W p l e (headSpec wsX2_fewestFrom ({ frames := 1, cells := 0, slots := 0, locals := 22 } : Room)).room s m [.ref n0, .int x0].toArray below meth c s.heap [] 0 0 (MQ below (k2_QcV (.int r0)) [.ref n0, .int x0].toArray s 0 0 (fun _ => False)) (F0 m 14 ls []) := by
    intro nn
    induction nn with
    | zero =>
      intro i3_14 i4_14  ls z_14 hl hf hex_14
      rw [fl_X2_fewestFrom_14] at hf
      cases hf
    | succ nn ih =>
      intro i3_14 i4_14  ls z_14 hl hf hex_14
      rw [fl_X2_fewestFrom_14] at hf
      refine lv_iload hx hb dX2_fewestFrom_14 (lv_at hl 0 rfl) ?_
      refine lv_if_le (tgt := 76) hx hb dX2_fewestFrom_16 (by decide) (fun c_1 => ?_) (fun c_1 => ?_)
      · replace hf := (if_pos c_1).symm.trans hf
        replace hf := Option.some.inj hf
        subst hf
        exact hex_14 ls (lv_sub hl [0, 1, 2, 3, 4] rfl)
      · replace hf := (if_neg c_1).symm.trans hf
        refine lv_aload_n hx hb dX2_fewestFrom_19 rfl (lv_at hl 3 rfl) ?_
        refine va_get (D := (dC, dI)) (ci := 2) (v := .ref n1) (C := RX2) (T := TX2) (N := 8) hx hb hts hi2 hown hK hP 0 rfl rfl 0 (by decide) (hts (.fieldLink RX2 9 RX2 "stepsLeft" "[I") (by decide +kernel)) (fun _ h9 => h9) rfl dX2_fewestFrom_20 ?_
        refine lv_iload_n hx hb dX2_fewestFrom_23 rfl (lv_at hl 4 rfl) ?_
        refine lv_iload hx hb dX2_fewestFrom_24 (lv_at hl 0 rfl) ?_
        refine lv_ior hx hb dX2_fewestFrom_26 ?_
        refine q_rSN (As := [.ref n1, .int (x0 ||| i4_14)]) (rest := []) ⟨hx, hb, hml, hown, hts⟩ (c_X5_at l dC dI cI cJ n1 256 N.1 (by decide) (x0 ||| i4_14)) ⟨va_cnB 2 hts gX2_fewestFrom_X5_at_n51 rfl rfl rfl (nm_RX2_51 hn) (hts (.initialized RX5) (by decide +kernel)) (by decide +kernel) ⟨Nat.le_of_ble_eq_true rfl, Nat.le_of_ble_eq_true rfl⟩, hts (.static yX5_at) (by decide +kernel), trivial⟩ hK hn (hP.sub (ws' := [(n1, .inl (cI, 256, .inl N.1))]) [1] rfl) rfl hl.1 rfl (Nat.le_of_ble_eq_true rfl) dX2_fewestFrom_27 ⟨Nat.zero_le _, Nat.zero_le _⟩ ?_
        refine lv_istore (lv' := [(5, .int (f_X5_at 256 N.1 (x0 ||| i4_14))), (4, .int i4_14), (3, .int i3_14), (2, .int (N.2.2.2.2.2.2.1 &&& (x0 ^^^ (-1)))), (0, .ref n0), (1, .int x0)]) hx hb dX2_fewestFrom_30 hl (by decide) rfl (fun ls hl => ?_)
        refine lv_iload hx hb dX2_fewestFrom_32 (lv_at hl 0 rfl) ?_
        refine lv_iconst (v := (-1)) hx hb dX2_fewestFrom_34 (by decide) ?_
        refine lv_icmp_eq (tgt := 65) hx hb dX2_fewestFrom_35 (by decide) (fun c_2 => ?_) (fun c_2 => ?_)
        · replace hf := (if_pos c_2).symm.trans hf
          refine lv_iload hx hb dX2_fewestFrom_65 (lv_at hl 1 rfl) ?_
          refine lv_iconst (v := 1) hx hb dX2_fewestFrom_67 (by decide) ?_
          refine lv_isub hx hb dX2_fewestFrom_68 ?_
          refine lv_iload_n hx hb dX2_fewestFrom_69 rfl (lv_at hl 3 rfl) ?_
          refine lv_iand hx hb dX2_fewestFrom_70 ?_
          refine lv_istore (lv' := [(4, .int ((i4_14 - 1) &&& (N.2.2.2.2.2.2.1 &&& (x0 ^^^ (-1))))), (5, .int (f_X5_at 256 N.1 (x0 ||| i4_14))), (3, .int i3_14), (2, .int (N.2.2.2.2.2.2.1 &&& (x0 ^^^ (-1)))), (0, .ref n0), (1, .int x0)]) hx hb dX2_fewestFrom_71 hl (by decide) rfl (fun ls hl => ?_)
          refine lv_goto (tgt := 14) hx hb dX2_fewestFrom_73 (by decide) ?_
          exact ih i3_14 ((i4_14 - 1) &&& (N.2.2.2.2.2.2.1 &&& (x0 ^^^ (-1)))) ls _ (lv_sub hl [0, 2, 3, 4, 5] rfl) hf hex_14
        · replace hf := (if_neg c_2).symm.trans hf
          refine lv_iload_n hx hb dX2_fewestFrom_38 rfl (lv_at hl 2 rfl) ?_
          refine lv_iconst (v := (-1)) hx hb dX2_fewestFrom_39 (by decide) ?_
          refine lv_icmp_eq (tgt := 51) hx hb dX2_fewestFrom_40 (by decide) (fun c_3 => ?_) (fun c_3 => ?_)
          · replace hf := (if_pos c_3).symm.trans hf
            refine lv_aload_n hx hb dX2_fewestFrom_51 rfl (lv_at hl 4 rfl) ?_
            refine lv_iload hx hb dX2_fewestFrom_52 (lv_at hl 1 rfl) ?_
            refine q_rV (As := [.int i4_14]) (rest := []) ⟨hx, hb, hml, hown, hts⟩ (c_X2_canBeOneStep l dC dI cI cJ n0 n1 n2 n3 N i4_14) (cwV 1 hts gX2_fewestFrom_X2_canBeOneStep rfl rfl rfl (by decide +kernel) ⟨Nat.le_of_ble_eq_true rfl, Nat.le_of_ble_eq_true rfl⟩) hK hn hP (ci := 2) rfl rfl rfl hl.1 rfl (Nat.le_of_ble_eq_true rfl) dX2_fewestFrom_54 ⟨Nat.zero_le _, Nat.zero_le _⟩ ?_
            refine lv_if_eq (tgt := 65) hx hb dX2_fewestFrom_57 (by decide) (fun c_4 => ?_) (fun c_4 => ?_)
            · replace hf := (if_pos c_4).symm.trans hf
              refine lv_iload hx hb dX2_fewestFrom_65 (lv_at hl 1 rfl) ?_
              refine lv_iconst (v := 1) hx hb dX2_fewestFrom_67 (by decide) ?_
              refine lv_isub hx hb dX2_fewestFrom_68 ?_
              refine lv_iload_n hx hb dX2_fewestFrom_69 rfl (lv_at hl 3 rfl) ?_
              refine lv_iand hx hb dX2_fewestFrom_70 ?_
              refine lv_istore (lv' := [(4, .int ((i4_14 - 1) &&& (N.2.2.2.2.2.2.1 &&& (x0 ^^^ (-1))))), (5, .int (f_X5_at 256 N.1 (x0 ||| i4_14))), (3, .int i3_14), (2, .int (N.2.2.2.2.2.2.1 &&& (x0 ^^^ (-1)))), (0, .ref n0), (1, .int x0)]) hx hb dX2_fewestFrom_71 hl (by decide) rfl (fun ls hl => ?_)
              refine lv_goto (tgt := 14) hx hb dX2_fewestFrom_73 (by decide) ?_
              exact ih i3_14 ((i4_14 - 1) &&& (N.2.2.2.2.2.2.1 &&& (x0 ^^^ (-1)))) ls _ (lv_sub hl [0, 2, 3, 4, 5] rfl) hf hex_14
            · replace hf := (if_neg c_4).symm.trans hf
              refine lv_iload hx hb dX2_fewestFrom_60 (lv_at hl 0 rfl) ?_
              refine lv_iconst (v := 1) hx hb dX2_fewestFrom_62 (by decide) ?_
              refine lv_iadd hx hb dX2_fewestFrom_63 ?_
              refine lv_istore_n (lv' := [(3, .int ((f_X5_at 256 N.1 (x0 ||| i4_14)) + 1)), (5, .int (f_X5_at 256 N.1 (x0 ||| i4_14))), (4, .int i4_14), (2, .int (N.2.2.2.2.2.2.1 &&& (x0 ^^^ (-1)))), (0, .ref n0), (1, .int x0)]) hx hb dX2_fewestFrom_64 rfl hl (by decide) rfl (fun ls hl => ?_)
              refine lv_iload hx hb dX2_fewestFrom_65 (lv_at hl 2 rfl) ?_
              refine lv_iconst (v := 1) hx hb dX2_fewestFrom_67 (by decide) ?_
              refine lv_isub hx hb dX2_fewestFrom_68 ?_
              refine lv_iload_n hx hb dX2_fewestFrom_69 rfl (lv_at hl 3 rfl) ?_
              refine lv_iand hx hb dX2_fewestFrom_70 ?_
              refine lv_istore (lv' := [(4, .int ((i4_14 - 1) &&& (N.2.2.2.2.2.2.1 &&& (x0 ^^^ (-1))))), (3, .int ((f_X5_at 256 N.1 (x0 ||| i4_14)) + 1)), (5, .int (f_X5_at 256 N.1 (x0 ||| i4_14))), (2, .int (N.2.2.2.2.2.2.1 &&& (x0 ^^^ (-1)))), (0, .ref n0), (1, .int x0)]) hx hb dX2_fewestFrom_71 hl (by decide) rfl (fun ls hl => ?_)
              refine lv_goto (tgt := 14) hx hb dX2_fewestFrom_73 (by decide) ?_
              exact ih ((f_X5_at 256 N.1 (x0 ||| i4_14)) + 1) ((i4_14 - 1) &&& (N.2.2.2.2.2.2.1 &&& (x0 ^^^ (-1)))) ls _ (lv_sub hl [0, 1, 3, 4, 5] rfl) hf hex_14
          · replace hf := (if_neg c_3).symm.trans hf
            refine lv_iload hx hb dX2_fewestFrom_43 (lv_at hl 0 rfl) ?_
            refine lv_iconst (v := 1) hx hb dX2_fewestFrom_45 (by decide) ?_
            refine lv_iadd hx hb dX2_fewestFrom_46 ?_
            refine lv_iload_n hx hb dX2_fewestFrom_47 rfl (lv_at hl 2 rfl) ?_
            refine lv_icmp_ge (tgt := 65) hx hb dX2_fewestFrom_48 (by decide) (fun c_5 => ?_) (fun c_5 => ?_)
            · replace hf := (if_pos c_5).symm.trans hf
              refine lv_iload hx hb dX2_fewestFrom_65 (lv_at hl 1 rfl) ?_
              refine lv_iconst (v := 1) hx hb dX2_fewestFrom_67 (by decide) ?_
              refine lv_isub hx hb dX2_fewestFrom_68 ?_
              refine lv_iload_n hx hb dX2_fewestFrom_69 rfl (lv_at hl 3 rfl) ?_
              refine lv_iand hx hb dX2_fewestFrom_70 ?_
              refine lv_istore (lv' := [(4, .int ((i4_14 - 1) &&& (N.2.2.2.2.2.2.1 &&& (x0 ^^^ (-1))))), (5, .int (f_X5_at 256 N.1 (x0 ||| i4_14))), (3, .int i3_14), (2, .int (N.2.2.2.2.2.2.1 &&& (x0 ^^^ (-1)))), (0, .ref n0), (1, .int x0)]) hx hb dX2_fewestFrom_71 hl (by decide) rfl (fun ls hl => ?_)
              refine lv_goto (tgt := 14) hx hb dX2_fewestFrom_73 (by decide) ?_
              exact ih i3_14 ((i4_14 - 1) &&& (N.2.2.2.2.2.2.1 &&& (x0 ^^^ (-1)))) ls _ (lv_sub hl [0, 2, 3, 4, 5] rfl) hf hex_14
            · replace hf := (if_neg c_5).symm.trans hf
              refine lv_aload_n hx hb dX2_fewestFrom_51 rfl (lv_at hl 4 rfl) ?_
              refine lv_iload hx hb dX2_fewestFrom_52 (lv_at hl 1 rfl) ?_
              refine q_rV (As := [.int i4_14]) (rest := []) ⟨hx, hb, hml, hown, hts⟩ (c_X2_canBeOneStep l dC dI cI cJ n0 n1 n2 n3 N i4_14) (cwV 1 hts gX2_fewestFrom_X2_canBeOneStep rfl rfl rfl (by decide +kernel) ⟨Nat.le_of_ble_eq_true rfl, Nat.le_of_ble_eq_true rfl⟩) hK hn hP (ci := 2) rfl rfl rfl hl.1 rfl (Nat.le_of_ble_eq_true rfl) dX2_fewestFrom_54 ⟨Nat.zero_le _, Nat.zero_le _⟩ ?_
              refine lv_if_eq (tgt := 65) hx hb dX2_fewestFrom_57 (by decide) (fun c_6 => ?_) (fun c_6 => ?_)
              · replace hf := (if_pos c_6).symm.trans hf
                refine lv_iload hx hb dX2_fewestFrom_65 (lv_at hl 1 rfl) ?_
                refine lv_iconst (v := 1) hx hb dX2_fewestFrom_67 (by decide) ?_
                refine lv_isub hx hb dX2_fewestFrom_68 ?_
                refine lv_iload_n hx hb dX2_fewestFrom_69 rfl (lv_at hl 3 rfl) ?_
                refine lv_iand hx hb dX2_fewestFrom_70 ?_
                refine lv_istore (lv' := [(4, .int ((i4_14 - 1) &&& (N.2.2.2.2.2.2.1 &&& (x0 ^^^ (-1))))), (5, .int (f_X5_at 256 N.1 (x0 ||| i4_14))), (3, .int i3_14), (2, .int (N.2.2.2.2.2.2.1 &&& (x0 ^^^ (-1)))), (0, .ref n0), (1, .int x0)]) hx hb dX2_fewestFrom_71 hl (by decide) rfl (fun ls hl => ?_)
                refine lv_goto (tgt := 14) hx hb dX2_fewestFrom_73 (by decide) ?_
                exact ih i3_14 ((i4_14 - 1) &&& (N.2.2.2.2.2.2.1 &&& (x0 ^^^ (-1)))) ls _ (lv_sub hl [0, 2, 3, 4, 5] rfl) hf hex_14
              · replace hf := (if_neg c_6).symm.trans hf
                refine lv_iload hx hb dX2_fewestFrom_60 (lv_at hl 0 rfl) ?_
                refine lv_iconst (v := 1) hx hb dX2_fewestFrom_62 (by decide) ?_
                refine lv_iadd hx hb dX2_fewestFrom_63 ?_
                refine lv_istore_n (lv' := [(3, .int ((f_X5_at 256 N.1 (x0 ||| i4_14)) + 1)), (5, .int (f_X5_at 256 N.1 (x0 ||| i4_14))), (4, .int i4_14), (2, .int (N.2.2.2.2.2.2.1 &&& (x0 ^^^ (-1)))), (0, .ref n0), (1, .int x0)]) hx hb dX2_fewestFrom_64 rfl hl (by decide) rfl (fun ls hl => ?_)
                refine lv_iload hx hb dX2_fewestFrom_65 (lv_at hl 2 rfl) ?_
                refine lv_iconst (v := 1) hx hb dX2_fewestFrom_67 (by decide) ?_
                refine lv_isub hx hb dX2_fewestFrom_68 ?_
                refine lv_iload_n hx hb dX2_fewestFrom_69 rfl (lv_at hl 3 rfl) ?_
                refine lv_iand hx hb dX2_fewestFrom_70 ?_
                refine lv_istore (lv' := [(4, .int ((i4_14 - 1) &&& (N.2.2.2.2.2.2.1 &&& (x0 ^^^ (-1))))), (3, .int ((f_X5_at 256 N.1 (x0 ||| i4_14)) + 1)), (5, .int (f_X5_at 256 N.1 (x0 ||| i4_14))), (2, .int (N.2.2.2.2.2.2.1 &&& (x0 ^^^ (-1)))), (0, .ref n0), (1, .int x0)]) hx hb dX2_fewestFrom_71 hl (by decide) rfl (fun ls hl => ?_)
                refine lv_goto (tgt := 14) hx hb dX2_fewestFrom_73 (by decide) ?_
                exact ih ((f_X5_at 256 N.1 (x0 ||| i4_14)) + 1) ((i4_14 - 1) &&& (N.2.2.2.2.2.2.1 &&& (x0 ^^^ (-1)))) ls _ (lv_sub hl [0, 1, 3, 4, 5] rfl) hf hex_14
  obtain ⟨z_7, hz_7, hf⟩ := Option.bind_eq_some_iff.mp hf
  refine L_14 1000 (-1) (N.2.2.2.2.2.2.1 &&& (x0 ^^^ (-1))) ls z_7 (lv_sub hl [0, 1, 2, 3, 4] rfl) hz_7 (fun ls hl => ?_)
  refine lv_iload_n hx hb dX2_fewestFrom_76 rfl (lv_at hl 1 rfl) ?_
  replace hf := Option.some.inj hf
  exact W.iret (v := z_7.1) hx hb hr (fun t ht hW => ⟨congrArg (fun z => Outcome.returned (some (.int z))) hf, ht⟩) (fun q h => absurd h List.not_mem_nil) dX2_fewestFrom_77
def fl_X2_smallestFrom_23 (x0 : Int32) (N : q_Pl) : Nat → Int32 → Option ((Int32) ⊕ (Int32))
  | 0, _ => none
  | nn + 1, i4_23 => (if (N.2.2.2.2.2.2.1 &&& (x0 ^^^ (-1))) < i4_23 then some (.inr i4_23) else (if (i4_23 &&& ((N.2.2.2.2.2.2.1 &&& (x0 ^^^ (-1))) ^^^ (-1))) = 0 then (if (f_X5_at 256 N.1 (x0 ||| i4_23)) = ((f_X5_at 256 N.1 x0) - 1) then (if (f_X2_canBeOneStep N i4_23) = 0 then fl_X2_smallestFrom_23 x0 N nn (i4_23 + 1) else some (.inl i4_23)) else fl_X2_smallestFrom_23 x0 N nn (i4_23 + 1)) else fl_X2_smallestFrom_23 x0 N nn (i4_23 + 1)))
def f_X2_smallestFrom (N : q_Pl) (x0 : Int32) : Option (Int32) := ((fl_X2_smallestFrom_23 x0 N 1000 1).bind fun z_5 => Sum.elim (fun r_ => some r_) (fun y_6 => some 0) z_5)
set_option maxHeartbeats 4000000 in
set_option maxRecDepth 100000 in
theorem c_X2_smallestFrom (l : Launch) (dC : Nat → ClassId) (dI : Nat → Nat → Nat) (cI cJ : ClassId) (n0 : Nat) (n1 : Nat) (n2 : Nat) (n3 : Nat) (N : q_Pl) (x0 : Int32) (r0 : Int32) (hf : f_X2_smallestFrom N x0 = some r0) : Met l yX2_smallestFrom wsX2_smallestFrom ({ frames := 1, cells := 0, slots := 0, locals := 22 } : Room) (va_Pc [.ref n0, .int x0] (q_B (dC, dI) vwCl (wPl n0 n1 n2 n3 cI N) (q_ty cI cJ))) (k2_QcV (.int r0)) 0 0 (fun _ => False) := by
  refine Met.ofW (cc := cX2_smallestFrom) (maxL := 5) (ret := (some .int)) (by decide) rfl ?_
  intro p e s m args below meth c s₁ BB hml hv
  obtain ⟨rfl, hP, hK, hn⟩ := hv
  have hx := BB.exec
  have hb := BB.bytes
  have hr := BB.returns
  have hts := atoms_spec (ws := wsX2_smallestFrom) BB.pre
  have hown : s.vm.findClass RX2 = some m.cls := findClass_of_methodNamed BB.named
  have hlocks := BB.notSynchronized
  have hi2 : ∀ w ∈ u_ws RX2 TX2 8, w ∈ wsX2_smallestFrom := by decide +kernel
  have hl := lv_entry [.ref n0, .int x0] (n := 5) (Nat.le_of_ble_eq_true rfl)
  rw [lg_entry_eq]
  generalize (lg_sl [.ref n0, .int x0] ++ List.replicate (5 - (lg_sl [.ref n0, .int x0]).length) Slot.unset).toArray = ls at hl ⊢
  have hl : lv_has ls 5 [(0, .ref n0), (1, .int x0)] := hl
  unfold f_X2_smallestFrom at hf
  refine lv_aload_n hx hb dX2_smallestFrom_0 rfl (lv_at hl 0 rfl) ?_
  refine va_get (D := (dC, dI)) (ci := 2) (v := .int N.2.2.2.2.2.2.1) (C := RX2) (T := TX2) (N := 8) hx hb hts hi2 hown hK hP 0 rfl rfl 6 (by decide) (hts (.fieldLink RX2 35 RX2 "changed" "I") (by decide +kernel)) (fun _ h9 => h9) rfl dX2_smallestFrom_1 ?_
  refine lv_iload_n hx hb dX2_smallestFrom_4 rfl (lv_at hl 1 rfl) ?_
  refine lv_iconst (v := (-1)) hx hb dX2_smallestFrom_5 (by decide) ?_
  refine lv_ixor hx hb dX2_smallestFrom_6 ?_
  refine lv_iand hx hb dX2_smallestFrom_7 ?_
  refine lv_istore_n (lv' := [(2, .int (N.2.2.2.2.2.2.1 &&& (x0 ^^^ (-1)))), (0, .ref n0), (1, .int x0)]) hx hb dX2_smallestFrom_8 rfl hl (by decide) rfl (fun ls hl => ?_)
  refine lv_aload_n hx hb dX2_smallestFrom_9 rfl (lv_at hl 1 rfl) ?_
  refine va_get (D := (dC, dI)) (ci := 2) (v := .ref n1) (C := RX2) (T := TX2) (N := 8) hx hb hts hi2 hown hK hP 0 rfl rfl 0 (by decide) (hts (.fieldLink RX2 9 RX2 "stepsLeft" "[I") (by decide +kernel)) (fun _ h9 => h9) rfl dX2_smallestFrom_10 ?_
  refine lv_iload_n hx hb dX2_smallestFrom_13 rfl (lv_at hl 2 rfl) ?_
  refine q_rSN (As := [.ref n1, .int x0]) (rest := []) ⟨hx, hb, hml, hown, hts⟩ (c_X5_at l dC dI cI cJ n1 256 N.1 (by decide) x0) ⟨va_cnB 2 hts gX2_smallestFrom_X5_at_n51 rfl rfl rfl (nm_RX2_51 hn) (hts (.initialized RX5) (by decide +kernel)) (by decide +kernel) ⟨Nat.le_of_ble_eq_true rfl, Nat.le_of_ble_eq_true rfl⟩, hts (.static yX5_at) (by decide +kernel), trivial⟩ hK hn (hP.sub (ws' := [(n1, .inl (cI, 256, .inl N.1))]) [1] rfl) rfl hl.1 rfl (Nat.le_of_ble_eq_true rfl) dX2_smallestFrom_14 ⟨Nat.zero_le _, Nat.zero_le _⟩ ?_
  refine lv_iconst (v := 1) hx hb dX2_smallestFrom_17 (by decide) ?_
  refine lv_isub hx hb dX2_smallestFrom_18 ?_
  refine lv_istore_n (lv' := [(3, .int ((f_X5_at 256 N.1 x0) - 1)), (2, .int (N.2.2.2.2.2.2.1 &&& (x0 ^^^ (-1)))), (0, .ref n0), (1, .int x0)]) hx hb dX2_smallestFrom_19 rfl hl (by decide) rfl (fun ls hl => ?_)
  refine lv_iconst (v := 1) hx hb dX2_smallestFrom_20 (by decide) ?_
  refine lv_istore (lv' := [(4, .int 1), (3, .int ((f_X5_at 256 N.1 x0) - 1)), (2, .int (N.2.2.2.2.2.2.1 &&& (x0 ^^^ (-1)))), (0, .ref n0), (1, .int x0)]) hx hb dX2_smallestFrom_21 hl (by decide) rfl (fun ls hl => ?_)
  have L_23 : ∀ (nn : Nat) (i4_23 : Int32) (ls : Array Slot) (z_23 : ((Int32) ⊕ (Int32))), lv_has ls 5 [(4, .int i4_23), (3, .int ((f_X5_at 256 N.1 x0) - 1)), (2, .int (N.2.2.2.2.2.2.1 &&& (x0 ^^^ (-1)))), (0, .ref n0), (1, .int x0)] → fl_X2_smallestFrom_23 x0 N nn i4_23 = some z_23 → (∀ r_ : Int32, z_23 = .inl r_ → r_ = r0) → (∀ (y : Int32) (ls : Array Slot), z_23 = .inr y → lv_has ls 5 [(4, .int y), (3, .int ((f_X5_at 256 N.1 x0) - 1)), (2, .int (N.2.2.2.2.2.2.1 &&& (x0 ^^^ (-1)))), (0, .ref n0), (1, .int x0)] → W p l e (headSpec wsX2_smallestFrom ({ frames := 1, cells := 0, slots := 0, locals := 22 } : Room)).room s m [.ref n0, .int x0].toArray below meth c s.heap [] 0 0 (MQ below (k2_QcV (.int r0)) [.ref n0, .int x0].toArray s 0 0 (fun _ => False)) (F0 m 71 ls [])) → W p l e (headSpec wsX2_smallestFrom ({ frames := 1, cells := 0, slots := 0, locals := 22 } : Room)).room s m [.ref n0, .int x0].toArray below meth c s.heap [] 0 0 (MQ below (k2_QcV (.int r0)) [.ref n0, .int x0].toArray s 0 0 (fun _ => False)) (F0 m 23 ls []) := by
    intro nn
    induction nn with
    | zero =>
      intro i4_23  ls z_23 hl hf hret_23 hex_23
      rw [fl_X2_smallestFrom_23] at hf
      cases hf
    | succ nn ih =>
      intro i4_23  ls z_23 hl hf hret_23 hex_23
      rw [fl_X2_smallestFrom_23] at hf
      refine lv_iload hx hb dX2_smallestFrom_23 (lv_at hl 0 rfl) ?_
      refine lv_iload_n hx hb dX2_smallestFrom_25 rfl (lv_at hl 2 rfl) ?_
      refine lv_icmp_gt (tgt := 71) hx hb dX2_smallestFrom_26 (by decide) (fun c_1 => ?_) (fun c_1 => ?_)
      · replace hf := (if_pos c_1).symm.trans hf
        exact hex_23 i4_23 ls (Option.some.inj hf).symm (lv_sub hl [0, 1, 2, 3, 4] rfl)
      · replace hf := (if_neg c_1).symm.trans hf
        refine lv_iload hx hb dX2_smallestFrom_29 (lv_at hl 0 rfl) ?_
        refine lv_iload_n hx hb dX2_smallestFrom_31 rfl (lv_at hl 2 rfl) ?_
        refine lv_iconst (v := (-1)) hx hb dX2_smallestFrom_32 (by decide) ?_
        refine lv_ixor hx hb dX2_smallestFrom_33 ?_
        refine lv_iand hx hb dX2_smallestFrom_34 ?_
        refine lv_if_ne (tgt := 65) hx hb dX2_smallestFrom_35 (by decide) (fun c_2 => ?_) (fun c_2 => ?_)
        · replace hf := (if_neg c_2).symm.trans hf
          refine lv_iinc (v := i4_23 + 1) (lv' := [(4, .int (i4_23 + 1)), (3, .int ((f_X5_at 256 N.1 x0) - 1)), (2, .int (N.2.2.2.2.2.2.1 &&& (x0 ^^^ (-1)))), (0, .ref n0), (1, .int x0)]) hx hb dX2_smallestFrom_65 hl (k := 0) rfl rfl (by decide) rfl (fun ls hl => ?_)
          refine lv_goto (tgt := 23) hx hb dX2_smallestFrom_68 (by decide) ?_
          exact ih (i4_23 + 1) ls _ (lv_sub hl [0, 1, 2, 3, 4] rfl) hf hret_23 hex_23
        · replace hf := (if_pos c_2).symm.trans hf
          refine lv_aload_n hx hb dX2_smallestFrom_38 rfl (lv_at hl 3 rfl) ?_
          refine va_get (D := (dC, dI)) (ci := 2) (v := .ref n1) (C := RX2) (T := TX2) (N := 8) hx hb hts hi2 hown hK hP 0 rfl rfl 0 (by decide) (hts (.fieldLink RX2 9 RX2 "stepsLeft" "[I") (by decide +kernel)) (fun _ h9 => h9) rfl dX2_smallestFrom_39 ?_
          refine lv_iload_n hx hb dX2_smallestFrom_42 rfl (lv_at hl 4 rfl) ?_
          refine lv_iload hx hb dX2_smallestFrom_43 (lv_at hl 0 rfl) ?_
          refine lv_ior hx hb dX2_smallestFrom_45 ?_
          refine q_rSN (As := [.ref n1, .int (x0 ||| i4_23)]) (rest := []) ⟨hx, hb, hml, hown, hts⟩ (c_X5_at l dC dI cI cJ n1 256 N.1 (by decide) (x0 ||| i4_23)) ⟨va_cnB 2 hts gX2_smallestFrom_X5_at_n51 rfl rfl rfl (nm_RX2_51 hn) (hts (.initialized RX5) (by decide +kernel)) (by decide +kernel) ⟨Nat.le_of_ble_eq_true rfl, Nat.le_of_ble_eq_true rfl⟩, hts (.static yX5_at) (by decide +kernel), trivial⟩ hK hn (hP.sub (ws' := [(n1, .inl (cI, 256, .inl N.1))]) [1] rfl) rfl hl.1 rfl (Nat.le_of_ble_eq_true rfl) dX2_smallestFrom_46 ⟨Nat.zero_le _, Nat.zero_le _⟩ ?_
          refine lv_iload_n hx hb dX2_smallestFrom_49 rfl (lv_at hl 1 rfl) ?_
          refine lv_icmp_ne (tgt := 65) hx hb dX2_smallestFrom_50 (by decide) (fun c_3 => ?_) (fun c_3 => ?_)
          · replace hf := (if_neg c_3).symm.trans hf
            refine lv_iinc (v := i4_23 + 1) (lv' := [(4, .int (i4_23 + 1)), (3, .int ((f_X5_at 256 N.1 x0) - 1)), (2, .int (N.2.2.2.2.2.2.1 &&& (x0 ^^^ (-1)))), (0, .ref n0), (1, .int x0)]) hx hb dX2_smallestFrom_65 hl (k := 0) rfl rfl (by decide) rfl (fun ls hl => ?_)
            refine lv_goto (tgt := 23) hx hb dX2_smallestFrom_68 (by decide) ?_
            exact ih (i4_23 + 1) ls _ (lv_sub hl [0, 1, 2, 3, 4] rfl) hf hret_23 hex_23
          · replace hf := (if_pos c_3).symm.trans hf
            refine lv_aload_n hx hb dX2_smallestFrom_53 rfl (lv_at hl 3 rfl) ?_
            refine lv_iload hx hb dX2_smallestFrom_54 (lv_at hl 0 rfl) ?_
            refine q_rV (As := [.int i4_23]) (rest := []) ⟨hx, hb, hml, hown, hts⟩ (c_X2_canBeOneStep l dC dI cI cJ n0 n1 n2 n3 N i4_23) (cwV 1 hts gX2_smallestFrom_X2_canBeOneStep rfl rfl rfl (by decide +kernel) ⟨Nat.le_of_ble_eq_true rfl, Nat.le_of_ble_eq_true rfl⟩) hK hn hP (ci := 2) rfl rfl rfl hl.1 rfl (Nat.le_of_ble_eq_true rfl) dX2_smallestFrom_56 ⟨Nat.zero_le _, Nat.zero_le _⟩ ?_
            refine lv_if_eq (tgt := 65) hx hb dX2_smallestFrom_59 (by decide) (fun c_4 => ?_) (fun c_4 => ?_)
            · replace hf := (if_pos c_4).symm.trans hf
              refine lv_iinc (v := i4_23 + 1) (lv' := [(4, .int (i4_23 + 1)), (3, .int ((f_X5_at 256 N.1 x0) - 1)), (2, .int (N.2.2.2.2.2.2.1 &&& (x0 ^^^ (-1)))), (0, .ref n0), (1, .int x0)]) hx hb dX2_smallestFrom_65 hl (k := 0) rfl rfl (by decide) rfl (fun ls hl => ?_)
              refine lv_goto (tgt := 23) hx hb dX2_smallestFrom_68 (by decide) ?_
              exact ih (i4_23 + 1) ls _ (lv_sub hl [0, 1, 2, 3, 4] rfl) hf hret_23 hex_23
            · replace hf := (if_neg c_4).symm.trans hf
              refine lv_iload hx hb dX2_smallestFrom_62 (lv_at hl 0 rfl) ?_
              replace hf := hret_23 i4_23 (Option.some.inj hf).symm
              exact W.iret (v := i4_23) hx hb hr (fun t ht hW => ⟨congrArg (fun z => Outcome.returned (some (.int z))) hf, ht⟩) (fun q h => absurd h List.not_mem_nil) dX2_smallestFrom_64
  obtain ⟨z_5, hz_5, hf⟩ := Option.bind_eq_some_iff.mp hf
  refine L_23 1000 1 ls z_5 (lv_sub hl [0, 1, 2, 3, 4] rfl) hz_5 (fun r_ hz => by rw [hz] at hf; exact Option.some.inj hf) (fun y_6 ls hz hl => ?_)
  subst hz
  simp only [Sum.elim_inr] at hf
  refine lv_iconst (v := 0) hx hb dX2_smallestFrom_71 (by decide) ?_
  replace hf := Option.some.inj hf
  exact W.iret (v := 0) hx hb hr (fun t ht hW => ⟨congrArg (fun z => Outcome.returned (some (.int z))) hf, ht⟩) (fun q h => absurd h List.not_mem_nil) dX2_smallestFrom_72
def fl_X2_choose_19  : Nat → Int32 → q_Pl → Option (Int32 × q_Pl)
  | 0, _, _ => none
  | nn + 1, i1_19, N_19 => (if i1_19 < 0 then some (i1_19, N_19) else (if (i1_19 &&& (N_19.2.2.2.2.2.2.1 ^^^ (-1))) = 0 then (if (f_X5_at 256 N_19.1 i1_19) = (-1) then fl_X2_choose_19  nn (i1_19 + (-1)) N_19 else ((f_X2_fewestFrom N_19 i1_19).bind fun x_4 => fl_X2_choose_19  nn (i1_19 + (-1)) ((f_X5_put 256 N_19.1 i1_19 x_4), N_19.2.1, N_19.2.2.1, N_19.2.2.2.1, N_19.2.2.2.2.1, N_19.2.2.2.2.2.1, N_19.2.2.2.2.2.2.1, N_19.2.2.2.2.2.2.2))) else fl_X2_choose_19  nn (i1_19 + (-1)) N_19))
def fl_X2_choose_81  : Nat → Int32 → Int32 → q_Pl → Option (Int32 × Int32 × q_Pl)
  | 0, _, _, _ => none
  | nn + 1, i1_81, i2_81, N_81 => (if N_81.2.2.2.2.2.2.2 ≤ i2_81 then some (i1_81, i2_81, N_81) else ((f_X2_smallestFrom N_81 i1_81).bind fun x_7 => fl_X2_choose_81  nn (i1_81 ||| x_7) (i2_81 + 1) (N_81.1, N_81.2.1, (f_X5_put 8 N_81.2.2.1 i2_81 x_7), N_81.2.2.2.1, N_81.2.2.2.2.1, N_81.2.2.2.2.2.1, N_81.2.2.2.2.2.2.1, N_81.2.2.2.2.2.2.2)))
def f_X2_choose (N : q_Pl)  : Option (q_Pl) := ((fl_X2_choose_19  1000 (N.2.2.2.2.2.2.1 - 1) ((f_X5_put 256 N.1 N.2.2.2.2.2.2.1 0), N.2.1, N.2.2.1, N.2.2.2.1, N.2.2.2.2.1, N.2.2.2.2.2.1, N.2.2.2.2.2.2.1, N.2.2.2.2.2.2.2)).bind fun z_5 => ((fl_X2_choose_81  1000 0 0 (z_5.2.1, z_5.2.2.1, z_5.2.2.2.1, z_5.2.2.2.2.1, z_5.2.2.2.2.2.1, z_5.2.2.2.2.2.2.1, z_5.2.2.2.2.2.2.2.1, (f_X5_at 256 z_5.2.1 0))).bind fun z_8 => some z_8.2.2))
set_option maxHeartbeats 4000000 in
set_option maxRecDepth 100000 in
theorem c_X2_choose (l : Launch) (dC : Nat → ClassId) (dI : Nat → Nat → Nat) (cI cJ : ClassId) (n0 : Nat) (n1 : Nat) (n2 : Nat) (n3 : Nat) (sz : Nat) (N : q_Pl)  (r0 : q_Pl) (hf : f_X2_choose N = some r0) : Met l yX2_choose wsX2_choose ({ frames := 2, cells := 0, slots := 0, locals := 47 } : Room) (va_Pc [.ref n0] (q_W (dC, dI) vwCl (wPl n0 n1 n2 n3 cI N) (q_ty cI cJ) sz)) (va_Qv (S := Unit) (fun _ => True) (fun _ => q_E (dC, dI) vwCl (wPl n0 n1 n2 n3 cI r0) (q_ty cI cJ) (va_A (wPl n0 n1 n2 n3 cI N) sz)) (va_A (wPl n0 n1 n2 n3 cI N) sz)) 0 0 (va_A (wPl n0 n1 n2 n3 cI N) sz) := by
  refine Met.ofW (cc := cX2_choose) (maxL := 4) (ret := none) (by decide) rfl ?_
  intro p e s m args below meth c s₁ BB hml hv
  obtain ⟨rfl, hsz, hP, hK, hn, hD0⟩ := hv
  have hx := BB.exec
  have hb := BB.bytes
  have hr := BB.returns
  have hts := atoms_spec (ws := wsX2_choose) BB.pre
  have hown : s.vm.findClass RX2 = some m.cls := findClass_of_methodNamed BB.named
  have hlocks := BB.notSynchronized
  subst hsz
  have hD := hD0.self (sz := s.heap.size)
  generalize hAe : va_A (wPl n0 n1 n2 n3 cI N) s.heap.size = A at hD ⊢
  have hA : ∀ q : Nat, s.heap.size ≤ q → A q := fun q h => by rw [← hAe]; exact Or.inr h
  have hS : va_S A s.heap s.heap [] := va_S.rf
  have hi2 : ∀ w ∈ u_ws RX2 TX2 8, w ∈ wsX2_choose := by decide +kernel
  have hl := lv_entry [.ref n0] (n := 4) (Nat.le_of_ble_eq_true rfl)
  rw [lg_entry_eq]
  generalize (lg_sl [.ref n0] ++ List.replicate (4 - (lg_sl [.ref n0]).length) Slot.unset).toArray = ls at hl ⊢
  have hl : lv_has ls 4 [(0, .ref n0)] := hl
  obtain ⟨H, hH⟩ : ∃ H, H = s.heap := ⟨_, rfl⟩
  obtain ⟨locs, hlocs⟩ : ∃ x : List Loc, x = [] := ⟨_, rfl⟩
  rw [← hH] at hP
  have hS : va_S A s.heap H locs := by rw [hH, hlocs]; exact hS
  suffices hgoal : ∀ (H : Heap) (locs : List Loc), va_P (dC, dI) vwCl (wPl n0 n1 n2 n3 cI N) H → va_S A s.heap H locs → W p l e (headSpec wsX2_choose ({ frames := 2, cells := 0, slots := 0, locals := 47 } : Room)).room s m [.ref n0].toArray below meth c H locs 0 0 (MQ below (va_Qv (S := Unit) (fun _ => True) (fun _ => q_E (dC, dI) vwCl (wPl n0 n1 n2 n3 cI r0) (q_ty cI cJ) A) A) [.ref n0].toArray s 0 0 A) (F0 m 0 ls []) by
    have h9 := hgoal H locs hP hS
    rw [hH, hlocs] at h9
    exact h9
  clear hP hS hH H hlocs locs
  intro H locs hP hS
  unfold f_X2_choose at hf
  refine lv_aload_n hx hb dX2_choose_0 rfl (lv_at hl 0 rfl) ?_
  refine va_get (D := (dC, dI)) (ci := 2) (v := .ref n1) (C := RX2) (T := TX2) (N := 8) hx hb hts hi2 hown hK hP 0 rfl rfl 0 (by decide) (hts (.fieldLink RX2 9 RX2 "stepsLeft" "[I") (by decide +kernel)) (fun _ h9 => h9) rfl dX2_choose_1 ?_
  refine lv_aload_n hx hb dX2_choose_4 rfl (lv_at hl 0 rfl) ?_
  refine va_get (D := (dC, dI)) (ci := 2) (v := .int N.2.2.2.2.2.2.1) (C := RX2) (T := TX2) (N := 8) hx hb hts hi2 hown hK hP 0 rfl rfl 6 (by decide) (hts (.fieldLink RX2 35 RX2 "changed" "I") (by decide +kernel)) (fun _ h9 => h9) rfl dX2_choose_5 ?_
  refine lv_iconst (v := 0) hx hb dX2_choose_8 (by decide) ?_
  have hPc := hP.sub (ws' := [(n1, .inl (cI, 256, .inl N.1))]) [1] rfl
  have hDc := hD.sub (ws' := [(n1, .inl (cI, 256, .inl N.1))]) [1] (by decide) rfl
  have hFc := va_free (wc := [(n1, .inl (cI, 256, .inl N.1))]) hD hS hA [1] rfl
  refine va_callv (va_runSN (As := [.ref n1, .int N.2.2.2.2.2.2.1, .int 0]) (rest := []) ⟨hx, hb, hml, hown, hts⟩ (c_X5_put l dC dI cI cJ n1 H.size 256 N.1 (by decide) N.2.2.2.2.2.2.1 0) ⟨va_cnB 3 hts gX2_choose_X5_put_n55 rfl rfl rfl (nm_RX2_55 hn) (hts (.initialized RX5) (by decide +kernel)) (by decide +kernel) ⟨Nat.le_of_ble_eq_true rfl, Nat.le_of_ble_eq_true rfl⟩, hts (.static yX5_put) (by decide +kernel), trivial⟩ ⟨q_Wblind, q_Wpre hPc hK hn hDc⟩ rfl rfl hl.1 rfl (lv_room (Nat.le_of_ble_eq_true rfl)) dX2_choose_9 ⟨Nat.zero_le _, Nat.zero_le _⟩) hS (fun q _ h => hFc q h) hFc (fun u t H1 locs ht hvm hw hB hz1 hk1 hS => ?_)
  obtain ⟨hP1, hK1, hD1⟩ := hB
  rw [ht] at hP1
  obtain ⟨hP, hD⟩ := va_join (wr := [(n0, .inr (2, [.ref n1, .ref n2, .ref n3, .long N.2.2.2.1, .long N.2.2.2.2.1, .int N.2.2.2.2.2.1, .int N.2.2.2.2.2.2.1, .int N.2.2.2.2.2.2.2])), (n2, .inl (cI, 256, .inl N.2.1)), (n3, .inl (cI, 8, .inl N.2.2.1))]) (w1 := [(n1, .inl (cI, 256, .inl (f_X5_put 256 N.1 N.2.2.2.2.2.2.1 0)))]) hP hD [1] [0, 2, 3] rfl rfl (by decide) (by decide) hk1 hFc hP1 hD1
  generalize H1 = H at hP hS ⊢
  replace hP := hP.sub (ws' := (wPl n0 n1 n2 n3 cI ((f_X5_put 256 N.1 N.2.2.2.2.2.2.1 0), N.2.1, N.2.2.1, N.2.2.2.1, N.2.2.2.2.1, N.2.2.2.2.2.1, N.2.2.2.2.2.2.1, N.2.2.2.2.2.2.2))) [0, 3, 1, 2] rfl
  replace hD := hD.sub (ws' := (wPl n0 n1 n2 n3 cI ((f_X5_put 256 N.1 N.2.2.2.2.2.2.1 0), N.2.1, N.2.2.1, N.2.2.2.1, N.2.2.2.2.1, N.2.2.2.2.2.1, N.2.2.2.2.2.2.1, N.2.2.2.2.2.2.2))) [0, 3, 1, 2] (by decide) rfl
  have hP : va_P (dC, dI) vwCl (wPl n0 n1 n2 n3 cI ((f_X5_put 256 N.1 N.2.2.2.2.2.2.1 0), N.2.1, N.2.2.1, N.2.2.2.1, N.2.2.2.2.1, N.2.2.2.2.2.1, N.2.2.2.2.2.2.1, N.2.2.2.2.2.2.2)) H := hP
  have hD : va_D A (wPl n0 n1 n2 n3 cI ((f_X5_put 256 N.1 N.2.2.2.2.2.2.1 0), N.2.1, N.2.2.1, N.2.2.2.1, N.2.2.2.2.1, N.2.2.2.2.2.1, N.2.2.2.2.2.2.1, N.2.2.2.2.2.2.2)) := hD
  refine lv_aload_n hx hb dX2_choose_12 rfl (lv_at hl 0 rfl) ?_
  refine va_get (D := (dC, dI)) (ci := 2) (v := .int N.2.2.2.2.2.2.1) (C := RX2) (T := TX2) (N := 8) hx hb hts hi2 hown hK hP 0 rfl rfl 6 (by decide) (hts (.fieldLink RX2 35 RX2 "changed" "I") (by decide +kernel)) (fun _ h9 => h9) rfl dX2_choose_13 ?_
  refine lv_iconst (v := 1) hx hb dX2_choose_16 (by decide) ?_
  refine lv_isub hx hb dX2_choose_17 ?_
  refine lv_istore_n (lv' := [(1, .int (N.2.2.2.2.2.2.1 - 1)), (0, .ref n0)]) hx hb dX2_choose_18 rfl hl (by decide) rfl (fun ls hl => ?_)
  have L_19 : ∀ (nn : Nat) (i1_19 : Int32) (N_19 : q_Pl) (H : Heap) (locs : List Loc) (ls : Array Slot) (z_19 : (Int32 × q_Pl)), lv_has ls 4 [(1, .int i1_19), (0, .ref n0)] → va_P (dC, dI) vwCl (wPl n0 n1 n2 n3 cI N_19) H → va_D A (wPl n0 n1 n2 n3 cI N_19) → va_S A s.heap H locs → fl_X2_choose_19  nn i1_19 N_19 = some z_19 → (∀ (H : Heap) (locs : List Loc) (ls : Array Slot), lv_has ls 4 [(1, .int z_19.1), (0, .ref n0)] → va_P (dC, dI) vwCl (wPl n0 n1 n2 n3 cI z_19.2) H → va_D A (wPl n0 n1 n2 n3 cI z_19.2) → va_S A s.heap H locs → W p l e (headSpec wsX2_choose ({ frames := 2, cells := 0, slots := 0, locals := 47 } : Room)).room s m [.ref n0].toArray below meth c H locs 0 0 (MQ below (va_Qv (S := Unit) (fun _ => True) (fun _ => q_E (dC, dI) vwCl (wPl n0 n1 n2 n3 cI r0) (q_ty cI cJ) A) A) [.ref n0].toArray s 0 0 A) (F0 m 65 ls [])) → W p l e (headSpec wsX2_choose ({ frames := 2, cells := 0, slots := 0, locals := 47 } : Room)).room s m [.ref n0].toArray below meth c H locs 0 0 (MQ below (va_Qv (S := Unit) (fun _ => True) (fun _ => q_E (dC, dI) vwCl (wPl n0 n1 n2 n3 cI r0) (q_ty cI cJ) A) A) [.ref n0].toArray s 0 0 A) (F0 m 19 ls []) := by
    intro nn
    induction nn with
    | zero =>
      intro i1_19 N_19 H locs ls z_19 hl hP hD hS hf hex_19
      rw [fl_X2_choose_19] at hf
      cases hf
    | succ nn ih =>
      intro i1_19 N_19 H locs ls z_19 hl hP hD hS hf hex_19
      rw [fl_X2_choose_19] at hf
      refine lv_iload_n hx hb dX2_choose_19 rfl (lv_at hl 0 rfl) ?_
      refine lv_if_lt (tgt := 65) hx hb dX2_choose_20 (by decide) (fun c_1 => ?_) (fun c_1 => ?_)
      · replace hf := (if_pos c_1).symm.trans hf
        replace hf := Option.some.inj hf
        subst hf
        exact hex_19 H locs ls (lv_sub hl [0, 1] rfl) hP hD hS
      · replace hf := (if_neg c_1).symm.trans hf
        refine lv_iload_n hx hb dX2_choose_23 rfl (lv_at hl 0 rfl) ?_
        refine lv_aload_n hx hb dX2_choose_24 rfl (lv_at hl 1 rfl) ?_
        refine va_get (D := (dC, dI)) (ci := 2) (v := .int N_19.2.2.2.2.2.2.1) (C := RX2) (T := TX2) (N := 8) hx hb hts hi2 hown hK hP 0 rfl rfl 6 (by decide) (hts (.fieldLink RX2 35 RX2 "changed" "I") (by decide +kernel)) (fun _ h9 => h9) rfl dX2_choose_25 ?_
        refine lv_iconst (v := (-1)) hx hb dX2_choose_28 (by decide) ?_
        refine lv_ixor hx hb dX2_choose_29 ?_
        refine lv_iand hx hb dX2_choose_30 ?_
        refine lv_if_ne (tgt := 59) hx hb dX2_choose_31 (by decide) (fun c_2 => ?_) (fun c_2 => ?_)
        · replace hf := (if_neg c_2).symm.trans hf
          refine lv_iinc (v := i1_19 + (-1)) (lv' := [(1, .int (i1_19 + (-1))), (0, .ref n0)]) hx hb dX2_choose_59 hl (k := 0) rfl rfl (by decide) rfl (fun ls hl => ?_)
          refine lv_goto (tgt := 19) hx hb dX2_choose_62 (by decide) ?_
          exact ih (i1_19 + (-1)) N_19 H locs ls _ (lv_sub hl [0, 1] rfl) hP hD hS hf hex_19
        · replace hf := (if_pos c_2).symm.trans hf
          refine lv_aload_n hx hb dX2_choose_34 rfl (lv_at hl 1 rfl) ?_
          refine va_get (D := (dC, dI)) (ci := 2) (v := .ref n1) (C := RX2) (T := TX2) (N := 8) hx hb hts hi2 hown hK hP 0 rfl rfl 0 (by decide) (hts (.fieldLink RX2 9 RX2 "stepsLeft" "[I") (by decide +kernel)) (fun _ h9 => h9) rfl dX2_choose_35 ?_
          refine lv_iload_n hx hb dX2_choose_38 rfl (lv_at hl 0 rfl) ?_
          refine q_rSN (As := [.ref n1, .int i1_19]) (rest := []) ⟨hx, hb, hml, hown, hts⟩ (c_X5_at l dC dI cI cJ n1 256 N_19.1 (by decide) i1_19) ⟨va_cnB 2 hts gX2_choose_X5_at_n51 rfl rfl rfl (nm_RX2_51 hn) (hts (.initialized RX5) (by decide +kernel)) (by decide +kernel) ⟨Nat.le_of_ble_eq_true rfl, Nat.le_of_ble_eq_true rfl⟩, hts (.static yX5_at) (by decide +kernel), trivial⟩ hK hn (hP.sub (ws' := [(n1, .inl (cI, 256, .inl N_19.1))]) [1] rfl) rfl hl.1 rfl (Nat.le_of_ble_eq_true rfl) dX2_choose_39 ⟨Nat.zero_le _, Nat.zero_le _⟩ ?_
          refine lv_iconst (v := (-1)) hx hb dX2_choose_42 (by decide) ?_
          refine lv_icmp_eq (tgt := 59) hx hb dX2_choose_43 (by decide) (fun c_3 => ?_) (fun c_3 => ?_)
          · replace hf := (if_pos c_3).symm.trans hf
            refine lv_iinc (v := i1_19 + (-1)) (lv' := [(1, .int (i1_19 + (-1))), (0, .ref n0)]) hx hb dX2_choose_59 hl (k := 0) rfl rfl (by decide) rfl (fun ls hl => ?_)
            refine lv_goto (tgt := 19) hx hb dX2_choose_62 (by decide) ?_
            exact ih (i1_19 + (-1)) N_19 H locs ls _ (lv_sub hl [0, 1] rfl) hP hD hS hf hex_19
          · replace hf := (if_neg c_3).symm.trans hf
            refine lv_aload_n hx hb dX2_choose_46 rfl (lv_at hl 1 rfl) ?_
            refine va_get (D := (dC, dI)) (ci := 2) (v := .ref n1) (C := RX2) (T := TX2) (N := 8) hx hb hts hi2 hown hK hP 0 rfl rfl 0 (by decide) (hts (.fieldLink RX2 9 RX2 "stepsLeft" "[I") (by decide +kernel)) (fun _ h9 => h9) rfl dX2_choose_47 ?_
            refine lv_iload_n hx hb dX2_choose_50 rfl (lv_at hl 0 rfl) ?_
            refine lv_aload_n hx hb dX2_choose_51 rfl (lv_at hl 1 rfl) ?_
            refine lv_iload_n hx hb dX2_choose_52 rfl (lv_at hl 0 rfl) ?_
            obtain ⟨x_4, hx_4, hf⟩ := Option.bind_eq_some_iff.mp hf
            refine q_rV (As := [.int i1_19]) (rest := [.int i1_19, .ref n1]) ⟨hx, hb, hml, hown, hts⟩ (c_X2_fewestFrom l dC dI cI cJ n0 n1 n2 n3 N_19 i1_19 x_4 hx_4) (cwV 1 hts gX2_choose_X2_fewestFrom rfl rfl rfl (by decide +kernel) ⟨Nat.le_of_ble_eq_true rfl, Nat.le_of_ble_eq_true rfl⟩) hK hn hP (ci := 2) rfl rfl rfl hl.1 rfl (Nat.le_of_ble_eq_true rfl) dX2_choose_53 ⟨Nat.zero_le _, Nat.zero_le _⟩ ?_
            have hPc := hP.sub (ws' := [(n1, .inl (cI, 256, .inl N_19.1))]) [1] rfl
            have hDc := hD.sub (ws' := [(n1, .inl (cI, 256, .inl N_19.1))]) [1] (by decide) rfl
            have hFc := va_free (wc := [(n1, .inl (cI, 256, .inl N_19.1))]) hD hS hA [1] rfl
            refine va_callv (va_runSN (As := [.ref n1, .int i1_19, .int x_4]) (rest := []) ⟨hx, hb, hml, hown, hts⟩ (c_X5_put l dC dI cI cJ n1 H.size 256 N_19.1 (by decide) i1_19 x_4) ⟨va_cnB 3 hts gX2_choose_X5_put_n55 rfl rfl rfl (nm_RX2_55 hn) (hts (.initialized RX5) (by decide +kernel)) (by decide +kernel) ⟨Nat.le_of_ble_eq_true rfl, Nat.le_of_ble_eq_true rfl⟩, hts (.static yX5_put) (by decide +kernel), trivial⟩ ⟨q_Wblind, q_Wpre hPc hK hn hDc⟩ rfl rfl hl.1 rfl (lv_room (Nat.le_of_ble_eq_true rfl)) dX2_choose_56 ⟨Nat.zero_le _, Nat.zero_le _⟩) hS (fun q _ h => hFc q h) hFc (fun u t H1 locs ht hvm hw hB hz1 hk1 hS => ?_)
            obtain ⟨hP1, hK1, hD1⟩ := hB
            rw [ht] at hP1
            obtain ⟨hP, hD⟩ := va_join (wr := [(n0, .inr (2, [.ref n1, .ref n2, .ref n3, .long N_19.2.2.2.1, .long N_19.2.2.2.2.1, .int N_19.2.2.2.2.2.1, .int N_19.2.2.2.2.2.2.1, .int N_19.2.2.2.2.2.2.2])), (n2, .inl (cI, 256, .inl N_19.2.1)), (n3, .inl (cI, 8, .inl N_19.2.2.1))]) (w1 := [(n1, .inl (cI, 256, .inl (f_X5_put 256 N_19.1 i1_19 x_4)))]) hP hD [1] [0, 2, 3] rfl rfl (by decide) (by decide) hk1 hFc hP1 hD1
            generalize H1 = H at hP hS ⊢
            replace hP := hP.sub (ws' := (wPl n0 n1 n2 n3 cI ((f_X5_put 256 N_19.1 i1_19 x_4), N_19.2.1, N_19.2.2.1, N_19.2.2.2.1, N_19.2.2.2.2.1, N_19.2.2.2.2.2.1, N_19.2.2.2.2.2.2.1, N_19.2.2.2.2.2.2.2))) [0, 3, 1, 2] rfl
            replace hD := hD.sub (ws' := (wPl n0 n1 n2 n3 cI ((f_X5_put 256 N_19.1 i1_19 x_4), N_19.2.1, N_19.2.2.1, N_19.2.2.2.1, N_19.2.2.2.2.1, N_19.2.2.2.2.2.1, N_19.2.2.2.2.2.2.1, N_19.2.2.2.2.2.2.2))) [0, 3, 1, 2] (by decide) rfl
            have hP : va_P (dC, dI) vwCl (wPl n0 n1 n2 n3 cI ((f_X5_put 256 N_19.1 i1_19 x_4), N_19.2.1, N_19.2.2.1, N_19.2.2.2.1, N_19.2.2.2.2.1, N_19.2.2.2.2.2.1, N_19.2.2.2.2.2.2.1, N_19.2.2.2.2.2.2.2)) H := hP
            have hD : va_D A (wPl n0 n1 n2 n3 cI ((f_X5_put 256 N_19.1 i1_19 x_4), N_19.2.1, N_19.2.2.1, N_19.2.2.2.1, N_19.2.2.2.2.1, N_19.2.2.2.2.2.1, N_19.2.2.2.2.2.2.1, N_19.2.2.2.2.2.2.2)) := hD
            refine lv_iinc (v := i1_19 + (-1)) (lv' := [(1, .int (i1_19 + (-1))), (0, .ref n0)]) hx hb dX2_choose_59 hl (k := 0) rfl rfl (by decide) rfl (fun ls hl => ?_)
            refine lv_goto (tgt := 19) hx hb dX2_choose_62 (by decide) ?_
            exact ih (i1_19 + (-1)) ((f_X5_put 256 N_19.1 i1_19 x_4), N_19.2.1, N_19.2.2.1, N_19.2.2.2.1, N_19.2.2.2.2.1, N_19.2.2.2.2.2.1, N_19.2.2.2.2.2.2.1, N_19.2.2.2.2.2.2.2) H locs ls _ (lv_sub hl [0, 1] rfl) hP hD hS hf hex_19
  obtain ⟨z_5, hz_5, hf⟩ := Option.bind_eq_some_iff.mp hf
  refine L_19 1000 (N.2.2.2.2.2.2.1 - 1) ((f_X5_put 256 N.1 N.2.2.2.2.2.2.1 0), N.2.1, N.2.2.1, N.2.2.2.1, N.2.2.2.2.1, N.2.2.2.2.2.1, N.2.2.2.2.2.2.1, N.2.2.2.2.2.2.2) H locs ls z_5 (lv_sub hl [0, 1] rfl) hP hD hS hz_5 (fun H locs ls hl hP hD hS => ?_)
  refine lv_aload_n hx hb dX2_choose_65 rfl (lv_at hl 1 rfl) ?_
  refine lv_aload_n hx hb dX2_choose_66 rfl (lv_at hl 1 rfl) ?_
  refine va_get (D := (dC, dI)) (ci := 2) (v := .ref n1) (C := RX2) (T := TX2) (N := 8) hx hb hts hi2 hown hK hP 0 rfl rfl 0 (by decide) (hts (.fieldLink RX2 9 RX2 "stepsLeft" "[I") (by decide +kernel)) (fun _ h9 => h9) rfl dX2_choose_67 ?_
  refine lv_iconst (v := 0) hx hb dX2_choose_70 (by decide) ?_
  refine q_rSN (As := [.ref n1, .int 0]) (rest := [.ref n0]) ⟨hx, hb, hml, hown, hts⟩ (c_X5_at l dC dI cI cJ n1 256 z_5.2.1 (by decide) 0) ⟨va_cnB 2 hts gX2_choose_X5_at_n51 rfl rfl rfl (nm_RX2_51 hn) (hts (.initialized RX5) (by decide +kernel)) (by decide +kernel) ⟨Nat.le_of_ble_eq_true rfl, Nat.le_of_ble_eq_true rfl⟩, hts (.static yX5_at) (by decide +kernel), trivial⟩ hK hn (hP.sub (ws' := [(n1, .inl (cI, 256, .inl z_5.2.1))]) [1] rfl) rfl hl.1 rfl (Nat.le_of_ble_eq_true rfl) dX2_choose_71 ⟨Nat.zero_le _, Nat.zero_le _⟩ ?_
  refine va_put (D := (dC, dI)) (ci := 2) (v := .int (f_X5_at 256 z_5.2.1 0)) (ty := .int) (C := RX2) (T := TX2) (N := 8) hx hb hts hi2 tyX2 tyX2_ok nmX2 hown hK hP hD hS 0 rfl rfl 7 (by decide) (hts (.fieldLink RX2 21 RX2 "steps" "I") (by decide +kernel)) (fun _ h9 => h9) rfl (by decide +kernel) rfl rfl (Nat.le_of_ble_eq_true rfl) dX2_choose_74 (fun H locs hP hD hS => ?_)
  have hP : va_P (dC, dI) vwCl (wPl n0 n1 n2 n3 cI (z_5.2.1, z_5.2.2.1, z_5.2.2.2.1, z_5.2.2.2.2.1, z_5.2.2.2.2.2.1, z_5.2.2.2.2.2.2.1, z_5.2.2.2.2.2.2.2.1, (f_X5_at 256 z_5.2.1 0))) H := hP
  have hD : va_D A (wPl n0 n1 n2 n3 cI (z_5.2.1, z_5.2.2.1, z_5.2.2.2.1, z_5.2.2.2.2.1, z_5.2.2.2.2.2.1, z_5.2.2.2.2.2.2.1, z_5.2.2.2.2.2.2.2.1, (f_X5_at 256 z_5.2.1 0))) := hD
  refine lv_iconst (v := 0) hx hb dX2_choose_77 (by decide) ?_
  refine lv_istore_n (lv' := [(1, .int 0), (0, .ref n0)]) hx hb dX2_choose_78 rfl hl (by decide) rfl (fun ls hl => ?_)
  refine lv_iconst (v := 0) hx hb dX2_choose_79 (by decide) ?_
  refine lv_istore_n (lv' := [(2, .int 0), (1, .int 0), (0, .ref n0)]) hx hb dX2_choose_80 rfl hl (by decide) rfl (fun ls hl => ?_)
  have L_81 : ∀ (nn : Nat) (i1_81 : Int32) (i2_81 : Int32) (N_81 : q_Pl) (H : Heap) (locs : List Loc) (ls : Array Slot) (z_81 : (Int32 × Int32 × q_Pl)), lv_has ls 4 [(2, .int i2_81), (1, .int i1_81), (0, .ref n0)] → va_P (dC, dI) vwCl (wPl n0 n1 n2 n3 cI N_81) H → va_D A (wPl n0 n1 n2 n3 cI N_81) → va_S A s.heap H locs → fl_X2_choose_81  nn i1_81 i2_81 N_81 = some z_81 → (∀ (H : Heap) (locs : List Loc) (ls : Array Slot), lv_has ls 4 [(2, .int z_81.2.1), (1, .int z_81.1), (0, .ref n0)] → va_P (dC, dI) vwCl (wPl n0 n1 n2 n3 cI z_81.2.2) H → va_D A (wPl n0 n1 n2 n3 cI z_81.2.2) → va_S A s.heap H locs → W p l e (headSpec wsX2_choose ({ frames := 2, cells := 0, slots := 0, locals := 47 } : Room)).room s m [.ref n0].toArray below meth c H locs 0 0 (MQ below (va_Qv (S := Unit) (fun _ => True) (fun _ => q_E (dC, dI) vwCl (wPl n0 n1 n2 n3 cI r0) (q_ty cI cJ) A) A) [.ref n0].toArray s 0 0 A) (F0 m 114 ls [])) → W p l e (headSpec wsX2_choose ({ frames := 2, cells := 0, slots := 0, locals := 47 } : Room)).room s m [.ref n0].toArray below meth c H locs 0 0 (MQ below (va_Qv (S := Unit) (fun _ => True) (fun _ => q_E (dC, dI) vwCl (wPl n0 n1 n2 n3 cI r0) (q_ty cI cJ) A) A) [.ref n0].toArray s 0 0 A) (F0 m 81 ls []) := by
    intro nn
    induction nn with
    | zero =>
      intro i1_81 i2_81 N_81 H locs ls z_81 hl hP hD hS hf hex_81
      rw [fl_X2_choose_81] at hf
      cases hf
    | succ nn ih =>
      intro i1_81 i2_81 N_81 H locs ls z_81 hl hP hD hS hf hex_81
      rw [fl_X2_choose_81] at hf
      refine lv_iload_n hx hb dX2_choose_81 rfl (lv_at hl 0 rfl) ?_
      refine lv_aload_n hx hb dX2_choose_82 rfl (lv_at hl 2 rfl) ?_
      refine va_get (D := (dC, dI)) (ci := 2) (v := .int N_81.2.2.2.2.2.2.2) (C := RX2) (T := TX2) (N := 8) hx hb hts hi2 hown hK hP 0 rfl rfl 7 (by decide) (hts (.fieldLink RX2 21 RX2 "steps" "I") (by decide +kernel)) (fun _ h9 => h9) rfl dX2_choose_83 ?_
      refine lv_icmp_ge (tgt := 114) hx hb dX2_choose_86 (by decide) (fun c_6 => ?_) (fun c_6 => ?_)
      · replace hf := (if_pos c_6).symm.trans hf
        replace hf := Option.some.inj hf
        subst hf
        exact hex_81 H locs ls (lv_sub hl [0, 1, 2] rfl) hP hD hS
      · replace hf := (if_neg c_6).symm.trans hf
        refine lv_aload_n hx hb dX2_choose_89 rfl (lv_at hl 2 rfl) ?_
        refine lv_iload_n hx hb dX2_choose_90 rfl (lv_at hl 1 rfl) ?_
        obtain ⟨x_7, hx_7, hf⟩ := Option.bind_eq_some_iff.mp hf
        refine q_rV (As := [.int i1_81]) (rest := []) ⟨hx, hb, hml, hown, hts⟩ (c_X2_smallestFrom l dC dI cI cJ n0 n1 n2 n3 N_81 i1_81 x_7 hx_7) (cwV 1 hts gX2_choose_X2_smallestFrom rfl rfl rfl (by decide +kernel) ⟨Nat.le_of_ble_eq_true rfl, Nat.le_of_ble_eq_true rfl⟩) hK hn hP (ci := 2) rfl rfl rfl hl.1 rfl (Nat.le_of_ble_eq_true rfl) dX2_choose_91 ⟨Nat.zero_le _, Nat.zero_le _⟩ ?_
        refine lv_istore_n (lv' := [(3, .int x_7), (2, .int i2_81), (1, .int i1_81), (0, .ref n0)]) hx hb dX2_choose_94 rfl hl (by decide) rfl (fun ls hl => ?_)
        refine lv_aload_n hx hb dX2_choose_95 rfl (lv_at hl 3 rfl) ?_
        refine va_get (D := (dC, dI)) (ci := 2) (v := .ref n3) (C := RX2) (T := TX2) (N := 8) hx hb hts hi2 hown hK hP 0 rfl rfl 2 (by decide) (hts (.fieldLink RX2 18 RX2 "plan" "[I") (by decide +kernel)) (fun _ h9 => h9) rfl dX2_choose_96 ?_
        refine lv_iload_n hx hb dX2_choose_99 rfl (lv_at hl 1 rfl) ?_
        refine lv_iload_n hx hb dX2_choose_100 rfl (lv_at hl 0 rfl) ?_
        have hPc := hP.sub (ws' := [(n3, .inl (cI, 8, .inl N_81.2.2.1))]) [3] rfl
        have hDc := hD.sub (ws' := [(n3, .inl (cI, 8, .inl N_81.2.2.1))]) [3] (by decide) rfl
        have hFc := va_free (wc := [(n3, .inl (cI, 8, .inl N_81.2.2.1))]) hD hS hA [3] rfl
        refine va_callv (va_runSN (As := [.ref n3, .int i2_81, .int x_7]) (rest := []) ⟨hx, hb, hml, hown, hts⟩ (c_X5_put l dC dI cI cJ n3 H.size 8 N_81.2.2.1 (by decide) i2_81 x_7) ⟨va_cnB 3 hts gX2_choose_X5_put_n55 rfl rfl rfl (nm_RX2_55 hn) (hts (.initialized RX5) (by decide +kernel)) (by decide +kernel) ⟨Nat.le_of_ble_eq_true rfl, Nat.le_of_ble_eq_true rfl⟩, hts (.static yX5_put) (by decide +kernel), trivial⟩ ⟨q_Wblind, q_Wpre hPc hK hn hDc⟩ rfl rfl hl.1 rfl (lv_room (Nat.le_of_ble_eq_true rfl)) dX2_choose_101 ⟨Nat.zero_le _, Nat.zero_le _⟩) hS (fun q _ h => hFc q h) hFc (fun u t H1 locs ht hvm hw hB hz1 hk1 hS => ?_)
        obtain ⟨hP1, hK1, hD1⟩ := hB
        rw [ht] at hP1
        obtain ⟨hP, hD⟩ := va_join (wr := [(n0, .inr (2, [.ref n1, .ref n2, .ref n3, .long N_81.2.2.2.1, .long N_81.2.2.2.2.1, .int N_81.2.2.2.2.2.1, .int N_81.2.2.2.2.2.2.1, .int N_81.2.2.2.2.2.2.2])), (n1, .inl (cI, 256, .inl N_81.1)), (n2, .inl (cI, 256, .inl N_81.2.1))]) (w1 := [(n3, .inl (cI, 8, .inl (f_X5_put 8 N_81.2.2.1 i2_81 x_7)))]) hP hD [3] [0, 1, 2] rfl rfl (by decide) (by decide) hk1 hFc hP1 hD1
        generalize H1 = H at hP hS ⊢
        have hP : va_P (dC, dI) vwCl (wPl n0 n1 n2 n3 cI (N_81.1, N_81.2.1, (f_X5_put 8 N_81.2.2.1 i2_81 x_7), N_81.2.2.2.1, N_81.2.2.2.2.1, N_81.2.2.2.2.2.1, N_81.2.2.2.2.2.2.1, N_81.2.2.2.2.2.2.2)) H := hP
        have hD : va_D A (wPl n0 n1 n2 n3 cI (N_81.1, N_81.2.1, (f_X5_put 8 N_81.2.2.1 i2_81 x_7), N_81.2.2.2.1, N_81.2.2.2.2.1, N_81.2.2.2.2.2.1, N_81.2.2.2.2.2.2.1, N_81.2.2.2.2.2.2.2)) := hD
        refine lv_iload_n hx hb dX2_choose_104 rfl (lv_at hl 2 rfl) ?_
        refine lv_iload_n hx hb dX2_choose_105 rfl (lv_at hl 0 rfl) ?_
        refine lv_ior hx hb dX2_choose_106 ?_
        refine lv_istore_n (lv' := [(1, .int (i1_81 ||| x_7)), (3, .int x_7), (2, .int i2_81), (0, .ref n0)]) hx hb dX2_choose_107 rfl hl (by decide) rfl (fun ls hl => ?_)
        refine lv_iinc (v := i2_81 + 1) (lv' := [(2, .int (i2_81 + 1)), (1, .int (i1_81 ||| x_7)), (3, .int x_7), (0, .ref n0)]) hx hb dX2_choose_108 hl (k := 2) rfl rfl (by decide) rfl (fun ls hl => ?_)
        refine lv_goto (tgt := 81) hx hb dX2_choose_111 (by decide) ?_
        exact ih (i1_81 ||| x_7) (i2_81 + 1) (N_81.1, N_81.2.1, (f_X5_put 8 N_81.2.2.1 i2_81 x_7), N_81.2.2.2.1, N_81.2.2.2.2.1, N_81.2.2.2.2.2.1, N_81.2.2.2.2.2.2.1, N_81.2.2.2.2.2.2.2) H locs ls _ (lv_sub hl [0, 1, 3] rfl) hP hD hS hf hex_81
  obtain ⟨z_8, hz_8, hf⟩ := Option.bind_eq_some_iff.mp hf
  refine L_81 1000 0 0 (z_5.2.1, z_5.2.2.1, z_5.2.2.2.1, z_5.2.2.2.2.1, z_5.2.2.2.2.2.1, z_5.2.2.2.2.2.2.1, z_5.2.2.2.2.2.2.2.1, (f_X5_at 256 z_5.2.1 0)) H locs ls z_8 (lv_sub hl [0, 1, 2] rfl) hP hD hS hz_8 (fun H locs ls hl hP hD hS => ?_)
  replace hf := Option.some.inj hf
  subst hf
  exact W.vret hx hb hr (fun t ht hW => ⟨⟨(), rfl, trivial, ⟨by rw [ht]; exact hP, va_K.moved hW.alike hK, hD⟩⟩, hS.F ht⟩) hS.2.2 dX2_choose_114
def f_X2_setOf (N : q_Pl) (x0 : Int32) : Int32 := (if N.2.2.2.2.2.2.2 ≤ x0 then (-1) else (f_X5_at 8 N.2.2.1 x0))
set_option maxHeartbeats 4000000 in
set_option maxRecDepth 100000 in
theorem c_X2_setOf (l : Launch) (dC : Nat → ClassId) (dI : Nat → Nat → Nat) (cI cJ : ClassId) (n0 : Nat) (n1 : Nat) (n2 : Nat) (n3 : Nat) (N : q_Pl) (x0 : Int32) : Met l yX2_setOf wsX2_setOf ({ frames := 1, cells := 0, slots := 0, locals := 21 } : Room) (va_Pc [.ref n0, .int x0] (q_B (dC, dI) vwCl (wPl n0 n1 n2 n3 cI N) (q_ty cI cJ))) (k2_QcV (.int (f_X2_setOf N x0))) 0 0 (fun _ => False) := by
  refine Met.ofW (cc := cX2_setOf) (maxL := 2) (ret := (some .int)) (by decide) rfl ?_
  intro p e s m args below meth c s₁ BB hml hv
  obtain ⟨rfl, hP, hK, hn⟩ := hv
  have hx := BB.exec
  have hb := BB.bytes
  have hr := BB.returns
  have hts := atoms_spec (ws := wsX2_setOf) BB.pre
  have hown : s.vm.findClass RX2 = some m.cls := findClass_of_methodNamed BB.named
  have hlocks := BB.notSynchronized
  have hi2 : ∀ w ∈ u_ws RX2 TX2 8, w ∈ wsX2_setOf := by decide +kernel
  have hl := lv_entry [.ref n0, .int x0] (n := 2) (Nat.le_of_ble_eq_true rfl)
  rw [lg_entry_eq]
  generalize (lg_sl [.ref n0, .int x0] ++ List.replicate (2 - (lg_sl [.ref n0, .int x0]).length) Slot.unset).toArray = ls at hl ⊢
  have hl : lv_has ls 2 [(0, .ref n0), (1, .int x0)] := hl
  generalize hf : f_X2_setOf N x0 = r0
  unfold f_X2_setOf at hf
  refine lv_iload_n hx hb dX2_setOf_0 rfl (lv_at hl 1 rfl) ?_
  refine lv_aload_n hx hb dX2_setOf_1 rfl (lv_at hl 0 rfl) ?_
  refine va_get (D := (dC, dI)) (ci := 2) (v := .int N.2.2.2.2.2.2.2) (C := RX2) (T := TX2) (N := 8) hx hb hts hi2 hown hK hP 0 rfl rfl 7 (by decide) (hts (.fieldLink RX2 21 RX2 "steps" "I") (by decide +kernel)) (fun _ h9 => h9) rfl dX2_setOf_2 ?_
  refine lv_icmp_ge (tgt := 19) hx hb dX2_setOf_5 (by decide) (fun c_1 => ?_) (fun c_1 => ?_)
  · replace hf := (if_pos c_1).symm.trans hf
    refine lv_iconst (v := (-1)) hx hb dX2_setOf_19 (by decide) ?_
    exact W.iret (v := (-1)) hx hb hr (fun t ht hW => ⟨congrArg (fun z => Outcome.returned (some (.int z))) hf, ht⟩) (fun q h => absurd h List.not_mem_nil) dX2_setOf_20
  · replace hf := (if_neg c_1).symm.trans hf
    refine lv_aload_n hx hb dX2_setOf_8 rfl (lv_at hl 0 rfl) ?_
    refine va_get (D := (dC, dI)) (ci := 2) (v := .ref n3) (C := RX2) (T := TX2) (N := 8) hx hb hts hi2 hown hK hP 0 rfl rfl 2 (by decide) (hts (.fieldLink RX2 18 RX2 "plan" "[I") (by decide +kernel)) (fun _ h9 => h9) rfl dX2_setOf_9 ?_
    refine lv_iload_n hx hb dX2_setOf_12 rfl (lv_at hl 1 rfl) ?_
    refine q_rSN (As := [.ref n3, .int x0]) (rest := []) ⟨hx, hb, hml, hown, hts⟩ (c_X5_at l dC dI cI cJ n3 8 N.2.2.1 (by decide) x0) ⟨va_cnB 2 hts gX2_setOf_X5_at_n51 rfl rfl rfl (nm_RX2_51 hn) (hts (.initialized RX5) (by decide +kernel)) (by decide +kernel) ⟨Nat.le_of_ble_eq_true rfl, Nat.le_of_ble_eq_true rfl⟩, hts (.static yX5_at) (by decide +kernel), trivial⟩ hK hn (hP.sub (ws' := [(n3, .inl (cI, 8, .inl N.2.2.1))]) [3] rfl) rfl hl.1 rfl (Nat.le_of_ble_eq_true rfl) dX2_setOf_13 ⟨Nat.zero_le _, Nat.zero_le _⟩ ?_
    refine lv_goto (tgt := 20) hx hb dX2_setOf_16 (by decide) ?_
    exact W.iret (v := (f_X5_at 8 N.2.2.1 x0)) hx hb hr (fun t ht hW => ⟨congrArg (fun z => Outcome.returned (some (.int z))) hf, ht⟩) (fun q h => absurd h List.not_mem_nil) dX2_setOf_20
def f_X2_flips (N : q_Pl)  : Int32 := (if N.2.2.2.2.2.2.2 = (-1) then (-1) else (f_J13_bitCount_95d88 (N.2.2.2.1 ^^^ N.2.2.2.2.1)))
set_option maxHeartbeats 4000000 in
set_option maxRecDepth 100000 in
theorem c_X2_flips (l : Launch) (dC : Nat → ClassId) (dI : Nat → Nat → Nat) (cI cJ : ClassId) (n0 : Nat) (n1 : Nat) (n2 : Nat) (n3 : Nat) (N : q_Pl)  : Met l yX2_flips wsX2_flips ({ frames := 1, cells := 0, slots := 0, locals := 21 } : Room) (va_Pc [.ref n0] (q_B (dC, dI) vwCl (wPl n0 n1 n2 n3 cI N) (q_ty cI cJ))) (k2_QcV (.int (f_X2_flips N))) 0 0 (fun _ => False) := by
  refine Met.ofW (cc := cX2_flips) (maxL := 1) (ret := (some .int)) (by decide) rfl ?_
  intro p e s m args below meth c s₁ BB hml hv
  obtain ⟨rfl, hP, hK, hn⟩ := hv
  have hx := BB.exec
  have hb := BB.bytes
  have hr := BB.returns
  have hts := atoms_spec (ws := wsX2_flips) BB.pre
  have hown : s.vm.findClass RX2 = some m.cls := findClass_of_methodNamed BB.named
  have hlocks := BB.notSynchronized
  have hi2 : ∀ w ∈ u_ws RX2 TX2 8, w ∈ wsX2_flips := by decide +kernel
  have hl := lv_entry [.ref n0] (n := 1) (Nat.le_of_ble_eq_true rfl)
  rw [lg_entry_eq]
  generalize (lg_sl [.ref n0] ++ List.replicate (1 - (lg_sl [.ref n0]).length) Slot.unset).toArray = ls at hl ⊢
  have hl : lv_has ls 1 [(0, .ref n0)] := hl
  generalize hf : f_X2_flips N = r0
  unfold f_X2_flips at hf
  refine lv_aload_n hx hb dX2_flips_0 rfl (lv_at hl 0 rfl) ?_
  refine va_get (D := (dC, dI)) (ci := 2) (v := .int N.2.2.2.2.2.2.2) (C := RX2) (T := TX2) (N := 8) hx hb hts hi2 hown hK hP 0 rfl rfl 7 (by decide) (hts (.fieldLink RX2 21 RX2 "steps" "I") (by decide +kernel)) (fun _ h9 => h9) rfl dX2_flips_1 ?_
  refine lv_iconst (v := (-1)) hx hb dX2_flips_4 (by decide) ?_
  refine lv_icmp_ne (tgt := 12) hx hb dX2_flips_5 (by decide) (fun c_1 => ?_) (fun c_1 => ?_)
  · replace hf := (if_neg c_1).symm.trans hf
    refine lv_aload_n hx hb dX2_flips_12 rfl (lv_at hl 0 rfl) ?_
    refine va_get (D := (dC, dI)) (ci := 2) (v := .long N.2.2.2.1) (C := RX2) (T := TX2) (N := 8) hx hb hts hi2 hown hK hP 0 rfl rfl 3 (by decide) (hts (.fieldLink RX2 25 RX2 "start" "J") (by decide +kernel)) (fun _ h9 => h9) rfl dX2_flips_13 ?_
    refine lv_aload_n hx hb dX2_flips_16 rfl (lv_at hl 0 rfl) ?_
    refine va_get (D := (dC, dI)) (ci := 2) (v := .long N.2.2.2.2.1) (C := RX2) (T := TX2) (N := 8) hx hb hts hi2 hown hK hP 0 rfl rfl 4 (by decide) (hts (.fieldLink RX2 29 RX2 "goal" "J") (by decide +kernel)) (fun _ h9 => h9) rfl dX2_flips_17 ?_
    refine lv_lxor hx hb dX2_flips_20 ?_
    refine q_rS (As := [.long (N.2.2.2.1 ^^^ N.2.2.2.2.1)]) (rest := []) ⟨hx, hb, hml, hown, hts⟩ (c_J13_bitCount_95d88 l dC dI cI cJ (N.2.2.2.1 ^^^ N.2.2.2.2.1)) (va_cwS 1 hts gX2_flips_J13_bitCount_95d88 rfl rfl rfl (by decide +kernel) ⟨Nat.le_of_ble_eq_true rfl, Nat.le_of_ble_eq_true rfl⟩) hK hn (hP.sub (ws' := []) [] rfl) rfl hl.1 rfl (Nat.le_of_ble_eq_true rfl) dX2_flips_21 ⟨Nat.zero_le _, Nat.zero_le _⟩ ?_
    exact W.iret (v := (f_J13_bitCount_95d88 (N.2.2.2.1 ^^^ N.2.2.2.2.1))) hx hb hr (fun t ht hW => ⟨congrArg (fun z => Outcome.returned (some (.int z))) hf, ht⟩) (fun q h => absurd h List.not_mem_nil) dX2_flips_24
  · replace hf := (if_pos c_1).symm.trans hf
    refine lv_iconst (v := (-1)) hx hb dX2_flips_8 (by decide) ?_
    refine lv_goto (tgt := 24) hx hb dX2_flips_9 (by decide) ?_
    exact W.iret (v := (-1)) hx hb hr (fun t ht hW => ⟨congrArg (fun z => Outcome.returned (some (.int z))) hf, ht⟩) (fun q h => absurd h List.not_mem_nil) dX2_flips_24
def fl_X2_pictureBehind_8 (x0 : Int32) (N : q_Pl) : Nat → Int64 → Int32 → Option (Int64 × Int32)
  | 0, _, _ => none
  | nn + 1, i2_8, i4_8 => (if 8 ≤ i4_8 then some (i2_8, i4_8) else (if (x0 &&& (1 <<< (i4_8 &&& 31))) = 0 then fl_X2_pictureBehind_8 x0 N nn i2_8 (i4_8 + 1) else fl_X2_pictureBehind_8 x0 N nn (i2_8 ^^^ ((N.2.2.2.1 ^^^ N.2.2.2.2.1) &&& ((31 : Int64) <<< ((f_X5_bitOf i4_8 0).toInt64 &&& 63)))) (i4_8 + 1)))
def f_X2_pictureBehind (N : q_Pl) (x0 : Int32) : Option (Int64) := ((fl_X2_pictureBehind_8 x0 N 1000 N.2.2.2.1 0).bind fun z_3 => some z_3.1)
set_option maxHeartbeats 4000000 in
set_option maxRecDepth 100000 in
theorem c_X2_pictureBehind (l : Launch) (dC : Nat → ClassId) (dI : Nat → Nat → Nat) (cI cJ : ClassId) (n0 : Nat) (n1 : Nat) (n2 : Nat) (n3 : Nat) (N : q_Pl) (x0 : Int32) (r0 : Int64) (hf : f_X2_pictureBehind N x0 = some r0) : Met l yX2_pictureBehind wsX2_pictureBehind ({ frames := 1, cells := 0, slots := 0, locals := 21 } : Room) (va_Pc [.ref n0, .int x0] (q_B (dC, dI) vwCl (wPl n0 n1 n2 n3 cI N) (q_ty cI cJ))) (k2_QcV (.long r0)) 0 0 (fun _ => False) := by
  refine Met.ofW (cc := cX2_pictureBehind) (maxL := 5) (ret := (some .long)) (by decide) rfl ?_
  intro p e s m args below meth c s₁ BB hml hv
  obtain ⟨rfl, hP, hK, hn⟩ := hv
  have hx := BB.exec
  have hb := BB.bytes
  have hr := BB.returns
  have hts := atoms_spec (ws := wsX2_pictureBehind) BB.pre
  have hown : s.vm.findClass RX2 = some m.cls := findClass_of_methodNamed BB.named
  have hlocks := BB.notSynchronized
  have hi2 : ∀ w ∈ u_ws RX2 TX2 8, w ∈ wsX2_pictureBehind := by decide +kernel
  have hl := lv_entry [.ref n0, .int x0] (n := 5) (Nat.le_of_ble_eq_true rfl)
  rw [lg_entry_eq]
  generalize (lg_sl [.ref n0, .int x0] ++ List.replicate (5 - (lg_sl [.ref n0, .int x0]).length) Slot.unset).toArray = ls at hl ⊢
  have hl : lv_has ls 5 [(0, .ref n0), (1, .int x0)] := hl
  unfold f_X2_pictureBehind at hf
  refine lv_aload_n hx hb dX2_pictureBehind_0 rfl (lv_at hl 0 rfl) ?_
  refine va_get (D := (dC, dI)) (ci := 2) (v := .long N.2.2.2.1) (C := RX2) (T := TX2) (N := 8) hx hb hts hi2 hown hK hP 0 rfl rfl 3 (by decide) (hts (.fieldLink RX2 25 RX2 "start" "J") (by decide +kernel)) (fun _ h9 => h9) rfl dX2_pictureBehind_1 ?_
  refine lv_lstore_n (lv' := [(2, .long N.2.2.2.1), (0, .ref n0), (1, .int x0)]) hx hb dX2_pictureBehind_4 rfl hl (by decide) rfl (fun ls hl => ?_)
  refine lv_iconst (v := 0) hx hb dX2_pictureBehind_5 (by decide) ?_
  refine lv_istore (lv' := [(4, .int 0), (2, .long N.2.2.2.1), (0, .ref n0), (1, .int x0)]) hx hb dX2_pictureBehind_6 hl (by decide) rfl (fun ls hl => ?_)
  have L_8 : ∀ (nn : Nat) (i2_8 : Int64) (i4_8 : Int32) (ls : Array Slot) (z_8 : (Int64 × Int32)), lv_has ls 5 [(4, .int i4_8), (2, .long i2_8), (0, .ref n0), (1, .int x0)] → fl_X2_pictureBehind_8 x0 N nn i2_8 i4_8 = some z_8 → (∀ (ls : Array Slot), lv_has ls 5 [(4, .int z_8.2), (2, .long z_8.1), (0, .ref n0), (1, .int x0)] → W p l e (headSpec wsX2_pictureBehind ({ frames := 1, cells := 0, slots := 0, locals := 21 } : Room)).room s m [.ref n0, .int x0].toArray below meth c s.heap [] 0 0 (MQ below (k2_QcV (.long r0)) [.ref n0, .int x0].toArray s 0 0 (fun _ => False)) (F0 m 53 ls [])) → W p l e (headSpec wsX2_pictureBehind ({ frames := 1, cells := 0, slots := 0, locals := 21 } : Room)).room s m [.ref n0, .int x0].toArray below meth c s.heap [] 0 0 (MQ below (k2_QcV (.long r0)) [.ref n0, .int x0].toArray s 0 0 (fun _ => False)) (F0 m 8 ls []) := by
    intro nn
    induction nn with
    | zero =>
      intro i2_8 i4_8  ls z_8 hl hf hex_8
      rw [fl_X2_pictureBehind_8] at hf
      cases hf
    | succ nn ih =>
      intro i2_8 i4_8  ls z_8 hl hf hex_8
      rw [fl_X2_pictureBehind_8] at hf
      refine lv_iload hx hb dX2_pictureBehind_8 (lv_at hl 0 rfl) ?_
      refine lv_bipush (v := 8) hx hb dX2_pictureBehind_10 (by decide) ?_
      refine lv_icmp_ge (tgt := 53) hx hb dX2_pictureBehind_12 (by decide) (fun c_1 => ?_) (fun c_1 => ?_)
      · replace hf := (if_pos c_1).symm.trans hf
        replace hf := Option.some.inj hf
        subst hf
        exact hex_8 ls (lv_sub hl [0, 1, 2, 3] rfl)
      · replace hf := (if_neg c_1).symm.trans hf
        refine lv_iload_n hx hb dX2_pictureBehind_15 rfl (lv_at hl 3 rfl) ?_
        refine lv_iconst (v := 1) hx hb dX2_pictureBehind_16 (by decide) ?_
        refine lv_iload hx hb dX2_pictureBehind_17 (lv_at hl 0 rfl) ?_
        refine lv_ishl hx hb dX2_pictureBehind_19 ?_
        refine lv_iand hx hb dX2_pictureBehind_20 ?_
        refine lv_if_eq (tgt := 47) hx hb dX2_pictureBehind_21 (by decide) (fun c_2 => ?_) (fun c_2 => ?_)
        · replace hf := (if_pos c_2).symm.trans hf
          refine lv_iinc (v := i4_8 + 1) (lv' := [(4, .int (i4_8 + 1)), (2, .long i2_8), (0, .ref n0), (1, .int x0)]) hx hb dX2_pictureBehind_47 hl (k := 0) rfl rfl (by decide) rfl (fun ls hl => ?_)
          refine lv_goto (tgt := 8) hx hb dX2_pictureBehind_50 (by decide) ?_
          exact ih i2_8 (i4_8 + 1) ls _ (lv_sub hl [0, 1, 2, 3] rfl) hf hex_8
        · replace hf := (if_neg c_2).symm.trans hf
          refine lv_lload_n hx hb dX2_pictureBehind_24 rfl (lv_at hl 1 rfl) ?_
          refine lv_aload_n hx hb dX2_pictureBehind_25 rfl (lv_at hl 2 rfl) ?_
          refine va_get (D := (dC, dI)) (ci := 2) (v := .long N.2.2.2.1) (C := RX2) (T := TX2) (N := 8) hx hb hts hi2 hown hK hP 0 rfl rfl 3 (by decide) (hts (.fieldLink RX2 25 RX2 "start" "J") (by decide +kernel)) (fun _ h9 => h9) rfl dX2_pictureBehind_26 ?_
          refine lv_aload_n hx hb dX2_pictureBehind_29 rfl (lv_at hl 2 rfl) ?_
          refine va_get (D := (dC, dI)) (ci := 2) (v := .long N.2.2.2.2.1) (C := RX2) (T := TX2) (N := 8) hx hb hts hi2 hown hK hP 0 rfl rfl 4 (by decide) (hts (.fieldLink RX2 29 RX2 "goal" "J") (by decide +kernel)) (fun _ h9 => h9) rfl dX2_pictureBehind_30 ?_
          refine lv_lxor hx hb dX2_pictureBehind_33 ?_
          refine lv_ldc2 hx hb hown (hts (.constantLong RX2 74 31) (by decide +kernel)) dX2_pictureBehind_34 ?_
          refine lv_iload hx hb dX2_pictureBehind_37 (lv_at hl 0 rfl) ?_
          refine lv_iconst (v := 0) hx hb dX2_pictureBehind_39 (by decide) ?_
          refine q_rSN (As := [.int i4_8, .int 0]) (rest := [.long 31, .long (N.2.2.2.1 ^^^ N.2.2.2.2.1), .long i2_8]) ⟨hx, hb, hml, hown, hts⟩ (c_X5_bitOf l dC dI cI cJ i4_8 0) ⟨va_cnB 2 hts gX2_pictureBehind_X5_bitOf_n76 rfl rfl rfl (nm_RX2_76 hn) (hts (.initialized RX5) (by decide +kernel)) (by decide +kernel) ⟨Nat.le_of_ble_eq_true rfl, Nat.le_of_ble_eq_true rfl⟩, hts (.static yX5_bitOf) (by decide +kernel), trivial⟩ hK hn (hP.sub (ws' := []) [] rfl) rfl hl.1 rfl (Nat.le_of_ble_eq_true rfl) dX2_pictureBehind_40 ⟨Nat.zero_le _, Nat.zero_le _⟩ ?_
          refine lv_lshl (v := (31 : Int64) <<< ((f_X5_bitOf i4_8 0).toInt64 &&& 63)) hx hb dX2_pictureBehind_43 rfl ?_
          refine lv_land hx hb dX2_pictureBehind_44 ?_
          refine lv_lxor hx hb dX2_pictureBehind_45 ?_
          refine lv_lstore_n (lv' := [(2, .long (i2_8 ^^^ ((N.2.2.2.1 ^^^ N.2.2.2.2.1) &&& ((31 : Int64) <<< ((f_X5_bitOf i4_8 0).toInt64 &&& 63))))), (4, .int i4_8), (0, .ref n0), (1, .int x0)]) hx hb dX2_pictureBehind_46 rfl hl (by decide) rfl (fun ls hl => ?_)
          refine lv_iinc (v := i4_8 + 1) (lv' := [(4, .int (i4_8 + 1)), (2, .long (i2_8 ^^^ ((N.2.2.2.1 ^^^ N.2.2.2.2.1) &&& ((31 : Int64) <<< ((f_X5_bitOf i4_8 0).toInt64 &&& 63))))), (0, .ref n0), (1, .int x0)]) hx hb dX2_pictureBehind_47 hl (k := 1) rfl rfl (by decide) rfl (fun ls hl => ?_)
          refine lv_goto (tgt := 8) hx hb dX2_pictureBehind_50 (by decide) ?_
          exact ih (i2_8 ^^^ ((N.2.2.2.1 ^^^ N.2.2.2.2.1) &&& ((31 : Int64) <<< ((f_X5_bitOf i4_8 0).toInt64 &&& 63)))) (i4_8 + 1) ls _ (lv_sub hl [0, 1, 2, 3] rfl) hf hex_8
  obtain ⟨z_3, hz_3, hf⟩ := Option.bind_eq_some_iff.mp hf
  refine L_8 1000 N.2.2.2.1 0 ls z_3 (lv_sub hl [0, 1, 2, 3] rfl) hz_3 (fun ls hl => ?_)
  refine lv_lload_n hx hb dX2_pictureBehind_53 rfl (lv_at hl 1 rfl) ?_
  replace hf := Option.some.inj hf
  exact W.lret (v := z_3.1) hx hb hr (fun t ht hW => ⟨congrArg (fun z => Outcome.returned (some (.long z))) hf, ht⟩) (fun q h => absurd h List.not_mem_nil) dX2_pictureBehind_54
