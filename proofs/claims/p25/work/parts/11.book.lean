def f_X1_addLetter (K : q_Bk) (x0 : Int32) (x1 : Int32) : Int32 × q_Bk := (K.2.2.2.2.2.1 + 1, ((f_X5_put 7 K.1 (K.2.2.2.2.2.1 + 1) x0), (f_X5_put 7 K.2.1 (K.2.2.2.2.2.1 + 1) x1), K.2.2.1, K.2.2.2.1, K.2.2.2.2.1, K.2.2.2.2.2.1 + 1, K.2.2.2.2.2.2))
set_option maxHeartbeats 4000000 in
set_option maxRecDepth 100000 in
theorem c_X1_addLetter (l : Launch) (dC : Nat → ClassId) (dI : Nat → Nat → Nat) (cI cJ : ClassId) (k0 : Nat) (k1 : Nat) (k2 : Nat) (k3 : Nat) (k4 : Nat) (k5 : Nat) (sz : Nat) (K : q_Bk) (x0 : Int32) (x1 : Int32) : Met l yX1_addLetter wsX1_addLetter ({ frames := 1, cells := 0, slots := 0, locals := 22 } : Room) (va_Pc [.ref k0, .int x0, .int x1] (q_W (dC, dI) vwCl (wBk k0 k1 k2 k3 k4 k5 cI cJ K) (q_ty cI cJ) sz)) (va_Qi (S := Unit) (fun r_ _ => r_ = (f_X1_addLetter K x0 x1).1) (fun _ => q_E (dC, dI) vwCl (wBk k0 k1 k2 k3 k4 k5 cI cJ ((f_X1_addLetter K x0 x1).2)) (q_ty cI cJ) (va_A (wBk k0 k1 k2 k3 k4 k5 cI cJ K) sz)) (va_A (wBk k0 k1 k2 k3 k4 k5 cI cJ K) sz)) 0 0 (va_A (wBk k0 k1 k2 k3 k4 k5 cI cJ K) sz) := by
  refine Met.ofW (cc := cX1_addLetter) (maxL := 3) (ret := (some .int)) (by decide) rfl ?_
  intro p e s m args below meth c s₁ BB hml hv
  obtain ⟨rfl, hsz, hP, hK, hn, hD0⟩ := hv
  have hx := BB.exec
  have hb := BB.bytes
  have hr := BB.returns
  have hts := atoms_spec (ws := wsX1_addLetter) BB.pre
  have hown : s.vm.findClass RX1 = some m.cls := findClass_of_methodNamed BB.named
  have hlocks := BB.notSynchronized
  subst hsz
  have hD := hD0.self (sz := s.heap.size)
  generalize hAe : va_A (wBk k0 k1 k2 k3 k4 k5 cI cJ K) s.heap.size = A at hD ⊢
  have hA : ∀ q : Nat, s.heap.size ≤ q → A q := fun q h => by rw [← hAe]; exact Or.inr h
  have hS : va_S A s.heap s.heap [] := va_S.rf
  have hi1 : ∀ w ∈ u_ws RX1 TX1 7, w ∈ wsX1_addLetter := by decide +kernel
  have hl := lv_entry [.ref k0, .int x0, .int x1] (n := 3) (Nat.le_of_ble_eq_true rfl)
  rw [lg_entry_eq]
  generalize (lg_sl [.ref k0, .int x0, .int x1] ++ List.replicate (3 - (lg_sl [.ref k0, .int x0, .int x1]).length) Slot.unset).toArray = ls at hl ⊢
  have hl : lv_has ls 3 [(0, .ref k0), (1, .int x0), (2, .int x1)] := hl
  generalize hf : f_X1_addLetter K x0 x1 = r0
  obtain ⟨H, hH⟩ : ∃ H, H = s.heap := ⟨_, rfl⟩
  obtain ⟨locs, hlocs⟩ : ∃ x : List Loc, x = [] := ⟨_, rfl⟩
  rw [← hH] at hP
  have hS : va_S A s.heap H locs := by rw [hH, hlocs]; exact hS
  suffices hgoal : ∀ (H : Heap) (locs : List Loc), va_P (dC, dI) vwCl (wBk k0 k1 k2 k3 k4 k5 cI cJ K) H → va_S A s.heap H locs → W p l e (headSpec wsX1_addLetter ({ frames := 1, cells := 0, slots := 0, locals := 22 } : Room)).room s m [.ref k0, .int x0, .int x1].toArray below meth c H locs 0 0 (MQ below (va_Qi (S := Unit) (fun r_ _ => r_ = r0.1) (fun _ => q_E (dC, dI) vwCl (wBk k0 k1 k2 k3 k4 k5 cI cJ r0.2) (q_ty cI cJ) A) A) [.ref k0, .int x0, .int x1].toArray s 0 0 A) (F0 m 0 ls []) by
    have h9 := hgoal H locs hP hS
    rw [hH, hlocs] at h9
    exact h9
  clear hP hS hH H hlocs locs
  intro H locs hP hS
  unfold f_X1_addLetter at hf
  refine lv_aload_n hx hb dX1_addLetter_0 rfl (lv_at hl 0 rfl) ?_
  refine lv_dup hx hb dX1_addLetter_1 rfl ?_
  refine va_get (D := (dC, dI)) (ci := 1) (v := .int K.2.2.2.2.2.1) (C := RX1) (T := TX1) (N := 7) hx hb hts hi1 hown hK hP 0 rfl rfl 5 (by decide) (hts (.fieldLink RX1 28 RX1 "letters" "I") (by decide +kernel)) (fun _ h9 => h9) rfl dX1_addLetter_2 ?_
  refine lv_iconst (v := 1) hx hb dX1_addLetter_5 (by decide) ?_
  refine lv_iadd hx hb dX1_addLetter_6 ?_
  refine va_put (D := (dC, dI)) (ci := 1) (v := .int (K.2.2.2.2.2.1 + 1)) (ty := .int) (C := RX1) (T := TX1) (N := 7) hx hb hts hi1 tyX1 tyX1_ok nmX1 hown hK hP hD hS 0 rfl rfl 5 (by decide) (hts (.fieldLink RX1 28 RX1 "letters" "I") (by decide +kernel)) (fun _ h9 => h9) rfl (by decide +kernel) rfl rfl (Nat.le_of_ble_eq_true rfl) dX1_addLetter_7 (fun H locs hP hD hS => ?_)
  have hP : va_P (dC, dI) vwCl (wBk k0 k1 k2 k3 k4 k5 cI cJ (K.1, K.2.1, K.2.2.1, K.2.2.2.1, K.2.2.2.2.1, K.2.2.2.2.2.1 + 1, K.2.2.2.2.2.2)) H := hP
  have hD : va_D A (wBk k0 k1 k2 k3 k4 k5 cI cJ (K.1, K.2.1, K.2.2.1, K.2.2.2.1, K.2.2.2.2.1, K.2.2.2.2.2.1 + 1, K.2.2.2.2.2.2)) := hD
  refine lv_aload_n hx hb dX1_addLetter_10 rfl (lv_at hl 0 rfl) ?_
  refine va_get (D := (dC, dI)) (ci := 1) (v := .ref k1) (C := RX1) (T := TX1) (N := 7) hx hb hts hi1 hown hK hP 0 rfl rfl 0 (by decide) (hts (.fieldLink RX1 9 RX1 "columnsOfLetters" "[I") (by decide +kernel)) (fun _ h9 => h9) rfl dX1_addLetter_11 ?_
  refine lv_aload_n hx hb dX1_addLetter_14 rfl (lv_at hl 0 rfl) ?_
  refine va_get (D := (dC, dI)) (ci := 1) (v := .int (K.2.2.2.2.2.1 + 1)) (C := RX1) (T := TX1) (N := 7) hx hb hts hi1 hown hK hP 0 rfl rfl 5 (by decide) (hts (.fieldLink RX1 28 RX1 "letters" "I") (by decide +kernel)) (fun _ h9 => h9) rfl dX1_addLetter_15 ?_
  refine lv_iload_n hx hb dX1_addLetter_18 rfl (lv_at hl 1 rfl) ?_
  have hPc := hP.sub (ws' := [(k1, .inl (cI, 7, .inl K.1))]) [1] rfl
  have hDc := hD.sub (ws' := [(k1, .inl (cI, 7, .inl K.1))]) [1] (by decide) rfl
  have hFc := va_free (wc := [(k1, .inl (cI, 7, .inl K.1))]) hD hS hA [1] rfl
  refine va_callv (va_runSN (As := [.ref k1, .int (K.2.2.2.2.2.1 + 1), .int x0]) (rest := []) ⟨hx, hb, hml, hown, hts⟩ (c_X5_put l dC dI cI cJ k1 H.size 7 K.1 (by decide) (K.2.2.2.2.2.1 + 1) x0) ⟨va_cnB 3 hts gX1_addLetter_X5_put_n32 rfl rfl rfl (nm_RX1_32 hn) (hts (.initialized RX5) (by decide +kernel)) (by decide +kernel) ⟨Nat.le_of_ble_eq_true rfl, Nat.le_of_ble_eq_true rfl⟩, hts (.static yX5_put) (by decide +kernel), trivial⟩ ⟨q_Wblind, q_Wpre hPc hK hn hDc⟩ rfl rfl hl.1 rfl (lv_room (Nat.le_of_ble_eq_true rfl)) dX1_addLetter_19 ⟨Nat.zero_le _, Nat.zero_le _⟩) hS (fun q _ h => hFc q h) hFc (fun u t H1 locs ht hvm hw hB hz1 hk1 hS => ?_)
  obtain ⟨hP1, hK1, hD1⟩ := hB
  rw [ht] at hP1
  obtain ⟨hP, hD⟩ := va_join (wr := [(k0, .inr (1, [.ref k1, .ref k2, .ref k3, .ref k4, .ref k5, .int ((K.1, K.2.1, K.2.2.1, K.2.2.2.1, K.2.2.2.2.1, K.2.2.2.2.2.1 + 1, K.2.2.2.2.2.2).2.2.2.2.2.1), .int ((K.1, K.2.1, K.2.2.1, K.2.2.2.1, K.2.2.2.2.1, K.2.2.2.2.2.1 + 1, K.2.2.2.2.2.2).2.2.2.2.2.2)])), (k2, .inl (cI, 7, .inl ((K.1, K.2.1, K.2.2.1, K.2.2.2.1, K.2.2.2.2.1, K.2.2.2.2.2.1 + 1, K.2.2.2.2.2.2).2.1))), (k3, .inl (cI, 8, .inl ((K.1, K.2.1, K.2.2.1, K.2.2.2.1, K.2.2.2.2.1, K.2.2.2.2.2.1 + 1, K.2.2.2.2.2.2).2.2.1))), (k4, .inl (cI, 8, .inl ((K.1, K.2.1, K.2.2.1, K.2.2.2.1, K.2.2.2.2.1, K.2.2.2.2.2.1 + 1, K.2.2.2.2.2.2).2.2.2.1))), (k5, .inl (cJ, 8, .inr (.inl ((K.1, K.2.1, K.2.2.1, K.2.2.2.1, K.2.2.2.2.1, K.2.2.2.2.2.1 + 1, K.2.2.2.2.2.2).2.2.2.2.1))))]) (w1 := [(k1, .inl (cI, 7, .inl (f_X5_put 7 K.1 (K.2.2.2.2.2.1 + 1) x0)))]) hP hD [1] [0, 2, 3, 4, 5] rfl rfl (by decide) (by decide) hk1 hFc hP1 hD1
  generalize H1 = H at hP hS ⊢
  replace hP := hP.sub (ws' := (wBk k0 k1 k2 k3 k4 k5 cI cJ ((f_X5_put 7 K.1 (K.2.2.2.2.2.1 + 1) x0), K.2.1, K.2.2.1, K.2.2.2.1, K.2.2.2.2.1, K.2.2.2.2.2.1 + 1, K.2.2.2.2.2.2))) [0, 5, 1, 2, 3, 4] rfl
  replace hD := hD.sub (ws' := (wBk k0 k1 k2 k3 k4 k5 cI cJ ((f_X5_put 7 K.1 (K.2.2.2.2.2.1 + 1) x0), K.2.1, K.2.2.1, K.2.2.2.1, K.2.2.2.2.1, K.2.2.2.2.2.1 + 1, K.2.2.2.2.2.2))) [0, 5, 1, 2, 3, 4] (by decide) rfl
  have hP : va_P (dC, dI) vwCl (wBk k0 k1 k2 k3 k4 k5 cI cJ ((f_X5_put 7 K.1 (K.2.2.2.2.2.1 + 1) x0), K.2.1, K.2.2.1, K.2.2.2.1, K.2.2.2.2.1, K.2.2.2.2.2.1 + 1, K.2.2.2.2.2.2)) H := hP
  have hD : va_D A (wBk k0 k1 k2 k3 k4 k5 cI cJ ((f_X5_put 7 K.1 (K.2.2.2.2.2.1 + 1) x0), K.2.1, K.2.2.1, K.2.2.2.1, K.2.2.2.2.1, K.2.2.2.2.2.1 + 1, K.2.2.2.2.2.2)) := hD
  refine lv_aload_n hx hb dX1_addLetter_22 rfl (lv_at hl 0 rfl) ?_
  refine va_get (D := (dC, dI)) (ci := 1) (v := .ref k2) (C := RX1) (T := TX1) (N := 7) hx hb hts hi1 hown hK hP 0 rfl rfl 1 (by decide) (hts (.fieldLink RX1 15 RX1 "formsOfLetters" "[I") (by decide +kernel)) (fun _ h9 => h9) rfl dX1_addLetter_23 ?_
  refine lv_aload_n hx hb dX1_addLetter_26 rfl (lv_at hl 0 rfl) ?_
  refine va_get (D := (dC, dI)) (ci := 1) (v := .int (K.2.2.2.2.2.1 + 1)) (C := RX1) (T := TX1) (N := 7) hx hb hts hi1 hown hK hP 0 rfl rfl 5 (by decide) (hts (.fieldLink RX1 28 RX1 "letters" "I") (by decide +kernel)) (fun _ h9 => h9) rfl dX1_addLetter_27 ?_
  refine lv_iload_n hx hb dX1_addLetter_30 rfl (lv_at hl 2 rfl) ?_
  have hPc := hP.sub (ws' := [(k2, .inl (cI, 7, .inl K.2.1))]) [2] rfl
  have hDc := hD.sub (ws' := [(k2, .inl (cI, 7, .inl K.2.1))]) [2] (by decide) rfl
  have hFc := va_free (wc := [(k2, .inl (cI, 7, .inl K.2.1))]) hD hS hA [2] rfl
  refine va_callv (va_runSN (As := [.ref k2, .int (K.2.2.2.2.2.1 + 1), .int x1]) (rest := []) ⟨hx, hb, hml, hown, hts⟩ (c_X5_put l dC dI cI cJ k2 H.size 7 K.2.1 (by decide) (K.2.2.2.2.2.1 + 1) x1) ⟨va_cnB 3 hts gX1_addLetter_X5_put_n32 rfl rfl rfl (nm_RX1_32 hn) (hts (.initialized RX5) (by decide +kernel)) (by decide +kernel) ⟨Nat.le_of_ble_eq_true rfl, Nat.le_of_ble_eq_true rfl⟩, hts (.static yX5_put) (by decide +kernel), trivial⟩ ⟨q_Wblind, q_Wpre hPc hK hn hDc⟩ rfl rfl hl.1 rfl (lv_room (Nat.le_of_ble_eq_true rfl)) dX1_addLetter_31 ⟨Nat.zero_le _, Nat.zero_le _⟩) hS (fun q _ h => hFc q h) hFc (fun u t H1 locs ht hvm hw hB hz1 hk1 hS => ?_)
  obtain ⟨hP1, hK1, hD1⟩ := hB
  rw [ht] at hP1
  obtain ⟨hP, hD⟩ := va_join (wr := [(k0, .inr (1, [.ref k1, .ref k2, .ref k3, .ref k4, .ref k5, .int (((f_X5_put 7 K.1 (K.2.2.2.2.2.1 + 1) x0), K.2.1, K.2.2.1, K.2.2.2.1, K.2.2.2.2.1, K.2.2.2.2.2.1 + 1, K.2.2.2.2.2.2).2.2.2.2.2.1), .int (((f_X5_put 7 K.1 (K.2.2.2.2.2.1 + 1) x0), K.2.1, K.2.2.1, K.2.2.2.1, K.2.2.2.2.1, K.2.2.2.2.2.1 + 1, K.2.2.2.2.2.2).2.2.2.2.2.2)])), (k1, .inl (cI, 7, .inl (((f_X5_put 7 K.1 (K.2.2.2.2.2.1 + 1) x0), K.2.1, K.2.2.1, K.2.2.2.1, K.2.2.2.2.1, K.2.2.2.2.2.1 + 1, K.2.2.2.2.2.2).1))), (k3, .inl (cI, 8, .inl (((f_X5_put 7 K.1 (K.2.2.2.2.2.1 + 1) x0), K.2.1, K.2.2.1, K.2.2.2.1, K.2.2.2.2.1, K.2.2.2.2.2.1 + 1, K.2.2.2.2.2.2).2.2.1))), (k4, .inl (cI, 8, .inl (((f_X5_put 7 K.1 (K.2.2.2.2.2.1 + 1) x0), K.2.1, K.2.2.1, K.2.2.2.1, K.2.2.2.2.1, K.2.2.2.2.2.1 + 1, K.2.2.2.2.2.2).2.2.2.1))), (k5, .inl (cJ, 8, .inr (.inl (((f_X5_put 7 K.1 (K.2.2.2.2.2.1 + 1) x0), K.2.1, K.2.2.1, K.2.2.2.1, K.2.2.2.2.1, K.2.2.2.2.2.1 + 1, K.2.2.2.2.2.2).2.2.2.2.1))))]) (w1 := [(k2, .inl (cI, 7, .inl (f_X5_put 7 K.2.1 (K.2.2.2.2.2.1 + 1) x1)))]) hP hD [2] [0, 1, 3, 4, 5] rfl rfl (by decide) (by decide) hk1 hFc hP1 hD1
  generalize H1 = H at hP hS ⊢
  replace hP := hP.sub (ws' := (wBk k0 k1 k2 k3 k4 k5 cI cJ ((f_X5_put 7 K.1 (K.2.2.2.2.2.1 + 1) x0), (f_X5_put 7 K.2.1 (K.2.2.2.2.2.1 + 1) x1), K.2.2.1, K.2.2.2.1, K.2.2.2.2.1, K.2.2.2.2.2.1 + 1, K.2.2.2.2.2.2))) [0, 1, 5, 2, 3, 4] rfl
  replace hD := hD.sub (ws' := (wBk k0 k1 k2 k3 k4 k5 cI cJ ((f_X5_put 7 K.1 (K.2.2.2.2.2.1 + 1) x0), (f_X5_put 7 K.2.1 (K.2.2.2.2.2.1 + 1) x1), K.2.2.1, K.2.2.2.1, K.2.2.2.2.1, K.2.2.2.2.2.1 + 1, K.2.2.2.2.2.2))) [0, 1, 5, 2, 3, 4] (by decide) rfl
  have hP : va_P (dC, dI) vwCl (wBk k0 k1 k2 k3 k4 k5 cI cJ ((f_X5_put 7 K.1 (K.2.2.2.2.2.1 + 1) x0), (f_X5_put 7 K.2.1 (K.2.2.2.2.2.1 + 1) x1), K.2.2.1, K.2.2.2.1, K.2.2.2.2.1, K.2.2.2.2.2.1 + 1, K.2.2.2.2.2.2)) H := hP
  have hD : va_D A (wBk k0 k1 k2 k3 k4 k5 cI cJ ((f_X5_put 7 K.1 (K.2.2.2.2.2.1 + 1) x0), (f_X5_put 7 K.2.1 (K.2.2.2.2.2.1 + 1) x1), K.2.2.1, K.2.2.2.1, K.2.2.2.2.1, K.2.2.2.2.2.1 + 1, K.2.2.2.2.2.2)) := hD
  refine lv_aload_n hx hb dX1_addLetter_34 rfl (lv_at hl 0 rfl) ?_
  refine va_get (D := (dC, dI)) (ci := 1) (v := .int (K.2.2.2.2.2.1 + 1)) (C := RX1) (T := TX1) (N := 7) hx hb hts hi1 hown hK hP 0 rfl rfl 5 (by decide) (hts (.fieldLink RX1 28 RX1 "letters" "I") (by decide +kernel)) (fun _ h9 => h9) rfl dX1_addLetter_35 ?_
  subst hf
  exact W.iret (v := K.2.2.2.2.2.1 + 1) hx hb hr (fun t ht hW => ⟨⟨K.2.2.2.2.2.1 + 1, (), rfl, rfl, ⟨by rw [ht]; exact hP, va_K.moved hW.alike hK, hD⟩⟩, hS.F ht⟩) hS.2.2 dX1_addLetter_38
def fl_X1_canSpell_18 (K : q_Bk) : Nat → Int32 → Int32 → Option ((Int32) ⊕ (Int32 × Int32))
  | 0, _, _ => none
  | nn + 1, i2_18, i3_18 => (if 4 ≤ i3_18 then some (.inr (i2_18, i3_18)) else (if i2_18 ≤ 0 then some (.inr (i2_18, i3_18)) else (if (i2_18 - i2_18 / 10 * 10) < 1 then some (.inl 0) else (if (i2_18 - i2_18 / 10 * 10) ≤ K.2.2.2.2.2.1 then fl_X1_canSpell_18 K nn (i2_18 / 10) (i3_18 + 1) else some (.inl 0)))))
def f_X1_canSpell (K : q_Bk) (x0 : Int32) : Option (Int32) := (if x0 < 1 then some 0 else (if x0 ≤ 9999 then ((fl_X1_canSpell_18 K 1000 x0 0).bind fun z_7 => Sum.elim (fun r_ => some r_) (fun y_8 => some 1) z_7) else some 0))
set_option maxHeartbeats 4000000 in
set_option maxRecDepth 100000 in
theorem c_X1_canSpell (l : Launch) (dC : Nat → ClassId) (dI : Nat → Nat → Nat) (cI cJ : ClassId) (k0 : Nat) (k1 : Nat) (k2 : Nat) (k3 : Nat) (k4 : Nat) (k5 : Nat) (K : q_Bk) (x0 : Int32) (r0 : Int32) (hf : f_X1_canSpell K x0 = some r0) : Met l yX1_canSpell wsX1_canSpell ({ frames := 0, cells := 0, slots := 0, locals := 0 } : Room) (va_Pc [.ref k0, .int x0] (q_B (dC, dI) vwCl (wBk k0 k1 k2 k3 k4 k5 cI cJ K) (q_ty cI cJ))) (k2_QcV (.int r0)) 0 0 (fun _ => False) := by
  refine Met.ofW (cc := cX1_canSpell) (maxL := 5) (ret := (some .boolean)) (by decide) rfl ?_
  intro p e s m args below meth c s₁ BB hml hv
  obtain ⟨rfl, hP, hK, hn⟩ := hv
  have hx := BB.exec
  have hb := BB.bytes
  have hr := BB.returns
  have hts := atoms_spec (ws := wsX1_canSpell) BB.pre
  have hown : s.vm.findClass RX1 = some m.cls := findClass_of_methodNamed BB.named
  have hlocks := BB.notSynchronized
  have hi1 : ∀ w ∈ u_ws RX1 TX1 7, w ∈ wsX1_canSpell := by decide +kernel
  have hl := lv_entry [.ref k0, .int x0] (n := 5) (Nat.le_of_ble_eq_true rfl)
  rw [lg_entry_eq]
  generalize (lg_sl [.ref k0, .int x0] ++ List.replicate (5 - (lg_sl [.ref k0, .int x0]).length) Slot.unset).toArray = ls at hl ⊢
  have hl : lv_has ls 5 [(0, .ref k0), (1, .int x0)] := hl
  unfold f_X1_canSpell at hf
  refine lv_iload_n hx hb dX1_canSpell_0 rfl (lv_at hl 1 rfl) ?_
  refine lv_iconst (v := 1) hx hb dX1_canSpell_1 (by decide) ?_
  refine lv_icmp_lt (tgt := 12) hx hb dX1_canSpell_2 (by decide) (fun c_1 => ?_) (fun c_1 => ?_)
  · replace hf := (if_pos c_1).symm.trans hf
    refine lv_iconst (v := 0) hx hb dX1_canSpell_12 (by decide) ?_
    replace hf := Option.some.inj hf
    exact W.zret (v := 0) (ty := .boolean) hx hb hr rfl (fun t ht hW => ⟨congrArg (fun z => Outcome.returned (some (.int z))) hf, ht⟩) (fun q h => absurd h List.not_mem_nil) dX1_canSpell_13
  · replace hf := (if_neg c_1).symm.trans hf
    refine lv_iload_n hx hb dX1_canSpell_5 rfl (lv_at hl 1 rfl) ?_
    refine lv_sipush (v := 9999) hx hb dX1_canSpell_6 (by decide) ?_
    refine lv_icmp_le (tgt := 14) hx hb dX1_canSpell_9 (by decide) (fun c_2 => ?_) (fun c_2 => ?_)
    · replace hf := (if_pos c_2).symm.trans hf
      refine lv_iload_n hx hb dX1_canSpell_14 rfl (lv_at hl 1 rfl) ?_
      refine lv_istore_n (lv' := [(2, .int x0), (0, .ref k0), (1, .int x0)]) hx hb dX1_canSpell_15 rfl hl (by decide) rfl (fun ls hl => ?_)
      refine lv_iconst (v := 0) hx hb dX1_canSpell_16 (by decide) ?_
      refine lv_istore_n (lv' := [(3, .int 0), (2, .int x0), (0, .ref k0), (1, .int x0)]) hx hb dX1_canSpell_17 rfl hl (by decide) rfl (fun ls hl => ?_)
      have L_18 : ∀ (nn : Nat) (i2_18 : Int32) (i3_18 : Int32) (ls : Array Slot) (z_18 : ((Int32) ⊕ (Int32 × Int32))), lv_has ls 5 [(3, .int i3_18), (2, .int i2_18), (0, .ref k0), (1, .int x0)] → fl_X1_canSpell_18 K nn i2_18 i3_18 = some z_18 → (∀ r_ : Int32, z_18 = .inl r_ → r_ = r0) → (∀ (y : Int32 × Int32) (ls : Array Slot), z_18 = .inr y → lv_has ls 5 [(3, .int y.2), (2, .int y.1), (0, .ref k0), (1, .int x0)] → W p l e (headSpec wsX1_canSpell ({ frames := 0, cells := 0, slots := 0, locals := 0 } : Room)).room s m [.ref k0, .int x0].toArray below meth c s.heap [] 0 0 (MQ below (k2_QcV (.int r0)) [.ref k0, .int x0].toArray s 0 0 (fun _ => False)) (F0 m 61 ls [])) → W p l e (headSpec wsX1_canSpell ({ frames := 0, cells := 0, slots := 0, locals := 0 } : Room)).room s m [.ref k0, .int x0].toArray below meth c s.heap [] 0 0 (MQ below (k2_QcV (.int r0)) [.ref k0, .int x0].toArray s 0 0 (fun _ => False)) (F0 m 18 ls []) := by
        intro nn
        induction nn with
        | zero =>
          intro i2_18 i3_18  ls z_18 hl hf hret_18 hex_18
          rw [fl_X1_canSpell_18] at hf
          cases hf
        | succ nn ih =>
          intro i2_18 i3_18  ls z_18 hl hf hret_18 hex_18
          rw [fl_X1_canSpell_18] at hf
          refine lv_iload_n hx hb dX1_canSpell_18 rfl (lv_at hl 0 rfl) ?_
          refine lv_iconst (v := 4) hx hb dX1_canSpell_19 (by decide) ?_
          refine lv_icmp_ge (tgt := 61) hx hb dX1_canSpell_20 (by decide) (fun c_3 => ?_) (fun c_3 => ?_)
          · replace hf := (if_pos c_3).symm.trans hf
            exact hex_18 (i2_18, i3_18) ls (Option.some.inj hf).symm (lv_sub hl [0, 1, 2, 3] rfl)
          · replace hf := (if_neg c_3).symm.trans hf
            refine lv_iload_n hx hb dX1_canSpell_23 rfl (lv_at hl 1 rfl) ?_
            refine lv_if_le (tgt := 61) hx hb dX1_canSpell_24 (by decide) (fun c_4 => ?_) (fun c_4 => ?_)
            · replace hf := (if_pos c_4).symm.trans hf
              exact hex_18 (i2_18, i3_18) ls (Option.some.inj hf).symm (lv_sub hl [0, 1, 2, 3] rfl)
            · replace hf := (if_neg c_4).symm.trans hf
              refine lv_iload_n hx hb dX1_canSpell_27 rfl (lv_at hl 1 rfl) ?_
              refine lv_bipush (v := 10) hx hb dX1_canSpell_28 (by decide) ?_
              refine lv_irem hx hb dX1_canSpell_30 (by decide) ?_
              refine lv_istore (lv' := [(4, .int (i2_18 - i2_18 / 10 * 10)), (3, .int i3_18), (2, .int i2_18), (0, .ref k0), (1, .int x0)]) hx hb dX1_canSpell_31 hl (by decide) rfl (fun ls hl => ?_)
              refine lv_iload hx hb dX1_canSpell_33 (lv_at hl 0 rfl) ?_
              refine lv_iconst (v := 1) hx hb dX1_canSpell_35 (by decide) ?_
              refine lv_icmp_lt (tgt := 48) hx hb dX1_canSpell_36 (by decide) (fun c_5 => ?_) (fun c_5 => ?_)
              · replace hf := (if_pos c_5).symm.trans hf
                refine lv_iconst (v := 0) hx hb dX1_canSpell_48 (by decide) ?_
                replace hf := hret_18 0 (Option.some.inj hf).symm
                exact W.zret (v := 0) (ty := .boolean) hx hb hr rfl (fun t ht hW => ⟨congrArg (fun z => Outcome.returned (some (.int z))) hf, ht⟩) (fun q h => absurd h List.not_mem_nil) dX1_canSpell_49
              · replace hf := (if_neg c_5).symm.trans hf
                refine lv_iload hx hb dX1_canSpell_39 (lv_at hl 0 rfl) ?_
                refine lv_aload_n hx hb dX1_canSpell_41 rfl (lv_at hl 3 rfl) ?_
                refine va_get (D := (dC, dI)) (ci := 1) (v := .int K.2.2.2.2.2.1) (C := RX1) (T := TX1) (N := 7) hx hb hts hi1 hown hK hP 0 rfl rfl 5 (by decide) (hts (.fieldLink RX1 28 RX1 "letters" "I") (by decide +kernel)) (fun _ h9 => h9) rfl dX1_canSpell_42 ?_
                refine lv_icmp_le (tgt := 50) hx hb dX1_canSpell_45 (by decide) (fun c_6 => ?_) (fun c_6 => ?_)
                · replace hf := (if_pos c_6).symm.trans hf
                  refine lv_iload_n hx hb dX1_canSpell_50 rfl (lv_at hl 2 rfl) ?_
                  refine lv_bipush (v := 10) hx hb dX1_canSpell_51 (by decide) ?_
                  refine lv_idiv hx hb dX1_canSpell_53 (by decide) ?_
                  refine lv_istore_n (lv' := [(2, .int (i2_18 / 10)), (4, .int (i2_18 - i2_18 / 10 * 10)), (3, .int i3_18), (0, .ref k0), (1, .int x0)]) hx hb dX1_canSpell_54 rfl hl (by decide) rfl (fun ls hl => ?_)
                  refine lv_iinc (v := i3_18 + 1) (lv' := [(3, .int (i3_18 + 1)), (2, .int (i2_18 / 10)), (4, .int (i2_18 - i2_18 / 10 * 10)), (0, .ref k0), (1, .int x0)]) hx hb dX1_canSpell_55 hl (k := 2) rfl rfl (by decide) rfl (fun ls hl => ?_)
                  refine lv_goto (tgt := 18) hx hb dX1_canSpell_58 (by decide) ?_
                  exact ih (i2_18 / 10) (i3_18 + 1) ls _ (lv_sub hl [0, 1, 3, 4] rfl) hf hret_18 hex_18
                · replace hf := (if_neg c_6).symm.trans hf
                  refine lv_iconst (v := 0) hx hb dX1_canSpell_48 (by decide) ?_
                  replace hf := hret_18 0 (Option.some.inj hf).symm
                  exact W.zret (v := 0) (ty := .boolean) hx hb hr rfl (fun t ht hW => ⟨congrArg (fun z => Outcome.returned (some (.int z))) hf, ht⟩) (fun q h => absurd h List.not_mem_nil) dX1_canSpell_49
      obtain ⟨z_7, hz_7, hf⟩ := Option.bind_eq_some_iff.mp hf
      refine L_18 1000 x0 0 ls z_7 (lv_sub hl [0, 1, 2, 3] rfl) hz_7 (fun r_ hz => by rw [hz] at hf; exact Option.some.inj hf) (fun y_8 ls hz hl => ?_)
      subst hz
      simp only [Sum.elim_inr] at hf
      refine lv_iconst (v := 1) hx hb dX1_canSpell_61 (by decide) ?_
      replace hf := Option.some.inj hf
      exact W.zret (v := 1) (ty := .boolean) hx hb hr rfl (fun t ht hW => ⟨congrArg (fun z => Outcome.returned (some (.int z))) hf, ht⟩) (fun q h => absurd h List.not_mem_nil) dX1_canSpell_62
    · replace hf := (if_neg c_2).symm.trans hf
      refine lv_iconst (v := 0) hx hb dX1_canSpell_12 (by decide) ?_
      replace hf := Option.some.inj hf
      exact W.zret (v := 0) (ty := .boolean) hx hb hr rfl (fun t ht hW => ⟨congrArg (fun z => Outcome.returned (some (.int z))) hf, ht⟩) (fun q h => absurd h List.not_mem_nil) dX1_canSpell_13
def fl_X1_hasRow_2 (x0 : Int32) (K : q_Bk) : Nat → Int32 → Option ((Int32) ⊕ (Int32))
  | 0, _ => none
  | nn + 1, i2_2 => (if K.2.2.2.2.2.2 ≤ i2_2 then some (.inr i2_2) else (if (f_X5_at 8 K.2.2.1 i2_2) = x0 then some (.inl 1) else fl_X1_hasRow_2 x0 K nn (i2_2 + 1)))
def f_X1_hasRow (K : q_Bk) (x0 : Int32) : Option (Int32) := ((fl_X1_hasRow_2 x0 K 1000 0).bind fun z_3 => Sum.elim (fun r_ => some r_) (fun y_4 => some 0) z_3)
set_option maxHeartbeats 4000000 in
set_option maxRecDepth 100000 in
theorem c_X1_hasRow (l : Launch) (dC : Nat → ClassId) (dI : Nat → Nat → Nat) (cI cJ : ClassId) (k0 : Nat) (k1 : Nat) (k2 : Nat) (k3 : Nat) (k4 : Nat) (k5 : Nat) (K : q_Bk) (x0 : Int32) (r0 : Int32) (hf : f_X1_hasRow K x0 = some r0) : Met l yX1_hasRow wsX1_hasRow ({ frames := 1, cells := 0, slots := 0, locals := 21 } : Room) (va_Pc [.ref k0, .int x0] (q_B (dC, dI) vwCl (wBk k0 k1 k2 k3 k4 k5 cI cJ K) (q_ty cI cJ))) (k2_QcV (.int r0)) 0 0 (fun _ => False) := by
  refine Met.ofW (cc := cX1_hasRow) (maxL := 3) (ret := (some .boolean)) (by decide) rfl ?_
  intro p e s m args below meth c s₁ BB hml hv
  obtain ⟨rfl, hP, hK, hn⟩ := hv
  have hx := BB.exec
  have hb := BB.bytes
  have hr := BB.returns
  have hts := atoms_spec (ws := wsX1_hasRow) BB.pre
  have hown : s.vm.findClass RX1 = some m.cls := findClass_of_methodNamed BB.named
  have hlocks := BB.notSynchronized
  have hi1 : ∀ w ∈ u_ws RX1 TX1 7, w ∈ wsX1_hasRow := by decide +kernel
  have hl := lv_entry [.ref k0, .int x0] (n := 3) (Nat.le_of_ble_eq_true rfl)
  rw [lg_entry_eq]
  generalize (lg_sl [.ref k0, .int x0] ++ List.replicate (3 - (lg_sl [.ref k0, .int x0]).length) Slot.unset).toArray = ls at hl ⊢
  have hl : lv_has ls 3 [(0, .ref k0), (1, .int x0)] := hl
  unfold f_X1_hasRow at hf
  refine lv_iconst (v := 0) hx hb dX1_hasRow_0 (by decide) ?_
  refine lv_istore_n (lv' := [(2, .int 0), (0, .ref k0), (1, .int x0)]) hx hb dX1_hasRow_1 rfl hl (by decide) rfl (fun ls hl => ?_)
  have L_2 : ∀ (nn : Nat) (i2_2 : Int32) (ls : Array Slot) (z_2 : ((Int32) ⊕ (Int32))), lv_has ls 3 [(2, .int i2_2), (0, .ref k0), (1, .int x0)] → fl_X1_hasRow_2 x0 K nn i2_2 = some z_2 → (∀ r_ : Int32, z_2 = .inl r_ → r_ = r0) → (∀ (y : Int32) (ls : Array Slot), z_2 = .inr y → lv_has ls 3 [(2, .int y), (0, .ref k0), (1, .int x0)] → W p l e (headSpec wsX1_hasRow ({ frames := 1, cells := 0, slots := 0, locals := 21 } : Room)).room s m [.ref k0, .int x0].toArray below meth c s.heap [] 0 0 (MQ below (k2_QcV (.int r0)) [.ref k0, .int x0].toArray s 0 0 (fun _ => False)) (F0 m 30 ls [])) → W p l e (headSpec wsX1_hasRow ({ frames := 1, cells := 0, slots := 0, locals := 21 } : Room)).room s m [.ref k0, .int x0].toArray below meth c s.heap [] 0 0 (MQ below (k2_QcV (.int r0)) [.ref k0, .int x0].toArray s 0 0 (fun _ => False)) (F0 m 2 ls []) := by
    intro nn
    induction nn with
    | zero =>
      intro i2_2  ls z_2 hl hf hret_2 hex_2
      rw [fl_X1_hasRow_2] at hf
      cases hf
    | succ nn ih =>
      intro i2_2  ls z_2 hl hf hret_2 hex_2
      rw [fl_X1_hasRow_2] at hf
      refine lv_iload_n hx hb dX1_hasRow_2 rfl (lv_at hl 0 rfl) ?_
      refine lv_aload_n hx hb dX1_hasRow_3 rfl (lv_at hl 1 rfl) ?_
      refine va_get (D := (dC, dI)) (ci := 1) (v := .int K.2.2.2.2.2.2) (C := RX1) (T := TX1) (N := 7) hx hb hts hi1 hown hK hP 0 rfl rfl 6 (by decide) (hts (.fieldLink RX1 36 RX1 "lines" "I") (by decide +kernel)) (fun _ h9 => h9) rfl dX1_hasRow_4 ?_
      refine lv_icmp_ge (tgt := 30) hx hb dX1_hasRow_7 (by decide) (fun c_1 => ?_) (fun c_1 => ?_)
      · replace hf := (if_pos c_1).symm.trans hf
        exact hex_2 i2_2 ls (Option.some.inj hf).symm (lv_sub hl [0, 1, 2] rfl)
      · replace hf := (if_neg c_1).symm.trans hf
        refine lv_aload_n hx hb dX1_hasRow_10 rfl (lv_at hl 1 rfl) ?_
        refine va_get (D := (dC, dI)) (ci := 1) (v := .ref k3) (C := RX1) (T := TX1) (N := 7) hx hb hts hi1 hown hK hP 0 rfl rfl 2 (by decide) (hts (.fieldLink RX1 18 RX1 "rows" "[I") (by decide +kernel)) (fun _ h9 => h9) rfl dX1_hasRow_11 ?_
        refine lv_iload_n hx hb dX1_hasRow_14 rfl (lv_at hl 0 rfl) ?_
        refine q_rSN (As := [.ref k3, .int i2_2]) (rest := []) ⟨hx, hb, hml, hown, hts⟩ (c_X5_at l dC dI cI cJ k3 8 K.2.2.1 (by decide) i2_2) ⟨va_cnB 2 hts gX1_hasRow_X5_at_n39 rfl rfl rfl (nm_RX1_39 hn) (hts (.initialized RX5) (by decide +kernel)) (by decide +kernel) ⟨Nat.le_of_ble_eq_true rfl, Nat.le_of_ble_eq_true rfl⟩, hts (.static yX5_at) (by decide +kernel), trivial⟩ hK hn (hP.sub (ws' := [(k3, .inl (cI, 8, .inl K.2.2.1))]) [3] rfl) rfl hl.1 rfl (Nat.le_of_ble_eq_true rfl) dX1_hasRow_15 ⟨Nat.zero_le _, Nat.zero_le _⟩ ?_
        refine lv_iload_n hx hb dX1_hasRow_18 rfl (lv_at hl 2 rfl) ?_
        refine lv_icmp_ne (tgt := 24) hx hb dX1_hasRow_19 (by decide) (fun c_2 => ?_) (fun c_2 => ?_)
        · replace hf := (if_neg c_2).symm.trans hf
          refine lv_iinc (v := i2_2 + 1) (lv' := [(2, .int (i2_2 + 1)), (0, .ref k0), (1, .int x0)]) hx hb dX1_hasRow_24 hl (k := 0) rfl rfl (by decide) rfl (fun ls hl => ?_)
          refine lv_goto (tgt := 2) hx hb dX1_hasRow_27 (by decide) ?_
          exact ih (i2_2 + 1) ls _ (lv_sub hl [0, 1, 2] rfl) hf hret_2 hex_2
        · replace hf := (if_pos c_2).symm.trans hf
          refine lv_iconst (v := 1) hx hb dX1_hasRow_22 (by decide) ?_
          replace hf := hret_2 1 (Option.some.inj hf).symm
          exact W.zret (v := 1) (ty := .boolean) hx hb hr rfl (fun t ht hW => ⟨congrArg (fun z => Outcome.returned (some (.int z))) hf, ht⟩) (fun q h => absurd h List.not_mem_nil) dX1_hasRow_23
  obtain ⟨z_3, hz_3, hf⟩ := Option.bind_eq_some_iff.mp hf
  refine L_2 1000 0 ls z_3 (lv_sub hl [0, 1, 2] rfl) hz_3 (fun r_ hz => by rw [hz] at hf; exact Option.some.inj hf) (fun y_4 ls hz hl => ?_)
  subst hz
  simp only [Sum.elim_inr] at hf
  refine lv_iconst (v := 0) hx hb dX1_hasRow_30 (by decide) ?_
  replace hf := Option.some.inj hf
  exact W.zret (v := 0) (ty := .boolean) hx hb hr rfl (fun t ht hW => ⟨congrArg (fun z => Outcome.returned (some (.int z))) hf, ht⟩) (fun q h => absurd h List.not_mem_nil) dX1_hasRow_31
def f_X1_letterFrom (K : q_Bk) (x0 : Int32) (x1 : Int32) : Int64 := (if 8 ≤ x1 then 0 else ((f_X5_at 7 K.2.1 x0).toInt64) <<< ((f_X5_bitOf x1 0).toInt64 &&& 63))
set_option maxHeartbeats 4000000 in
set_option maxRecDepth 100000 in
theorem c_X1_letterFrom (l : Launch) (dC : Nat → ClassId) (dI : Nat → Nat → Nat) (cI cJ : ClassId) (k0 : Nat) (k1 : Nat) (k2 : Nat) (k3 : Nat) (k4 : Nat) (k5 : Nat) (K : q_Bk) (x0 : Int32) (x1 : Int32) : Met l yX1_letterFrom wsX1_letterFrom ({ frames := 1, cells := 0, slots := 0, locals := 21 } : Room) (va_Pc [.ref k0, .int x0, .int x1] (q_B (dC, dI) vwCl (wBk k0 k1 k2 k3 k4 k5 cI cJ K) (q_ty cI cJ))) (k2_QcV (.long (f_X1_letterFrom K x0 x1))) 0 0 (fun _ => False) := by
  refine Met.ofW (cc := cX1_letterFrom) (maxL := 3) (ret := (some .long)) (by decide) rfl ?_
  intro p e s m args below meth c s₁ BB hml hv
  obtain ⟨rfl, hP, hK, hn⟩ := hv
  have hx := BB.exec
  have hb := BB.bytes
  have hr := BB.returns
  have hts := atoms_spec (ws := wsX1_letterFrom) BB.pre
  have hown : s.vm.findClass RX1 = some m.cls := findClass_of_methodNamed BB.named
  have hlocks := BB.notSynchronized
  have hi1 : ∀ w ∈ u_ws RX1 TX1 7, w ∈ wsX1_letterFrom := by decide +kernel
  have hl := lv_entry [.ref k0, .int x0, .int x1] (n := 3) (Nat.le_of_ble_eq_true rfl)
  rw [lg_entry_eq]
  generalize (lg_sl [.ref k0, .int x0, .int x1] ++ List.replicate (3 - (lg_sl [.ref k0, .int x0, .int x1]).length) Slot.unset).toArray = ls at hl ⊢
  have hl : lv_has ls 3 [(0, .ref k0), (1, .int x0), (2, .int x1)] := hl
  generalize hf : f_X1_letterFrom K x0 x1 = r0
  unfold f_X1_letterFrom at hf
  refine lv_iload_n hx hb dX1_letterFrom_0 rfl (lv_at hl 2 rfl) ?_
  refine lv_bipush (v := 8) hx hb dX1_letterFrom_1 (by decide) ?_
  refine lv_icmp_ge (tgt := 24) hx hb dX1_letterFrom_3 (by decide) (fun c_1 => ?_) (fun c_1 => ?_)
  · replace hf := (if_pos c_1).symm.trans hf
    refine lv_lconst (v := 0) hx hb dX1_letterFrom_24 (by decide) ?_
    exact W.lret (v := 0) hx hb hr (fun t ht hW => ⟨congrArg (fun z => Outcome.returned (some (.long z))) hf, ht⟩) (fun q h => absurd h List.not_mem_nil) dX1_letterFrom_25
  · replace hf := (if_neg c_1).symm.trans hf
    refine lv_aload_n hx hb dX1_letterFrom_6 rfl (lv_at hl 0 rfl) ?_
    refine va_get (D := (dC, dI)) (ci := 1) (v := .ref k2) (C := RX1) (T := TX1) (N := 7) hx hb hts hi1 hown hK hP 0 rfl rfl 1 (by decide) (hts (.fieldLink RX1 15 RX1 "formsOfLetters" "[I") (by decide +kernel)) (fun _ h9 => h9) rfl dX1_letterFrom_7 ?_
    refine lv_iload_n hx hb dX1_letterFrom_10 rfl (lv_at hl 1 rfl) ?_
    refine q_rSN (As := [.ref k2, .int x0]) (rest := []) ⟨hx, hb, hml, hown, hts⟩ (c_X5_at l dC dI cI cJ k2 7 K.2.1 (by decide) x0) ⟨va_cnB 2 hts gX1_letterFrom_X5_at_n39 rfl rfl rfl (nm_RX1_39 hn) (hts (.initialized RX5) (by decide +kernel)) (by decide +kernel) ⟨Nat.le_of_ble_eq_true rfl, Nat.le_of_ble_eq_true rfl⟩, hts (.static yX5_at) (by decide +kernel), trivial⟩ hK hn (hP.sub (ws' := [(k2, .inl (cI, 7, .inl K.2.1))]) [2] rfl) rfl hl.1 rfl (Nat.le_of_ble_eq_true rfl) dX1_letterFrom_11 ⟨Nat.zero_le _, Nat.zero_le _⟩ ?_
    refine lv_i2l (v := (f_X5_at 7 K.2.1 x0).toInt64) hx hb dX1_letterFrom_14 rfl ?_
    refine lv_iload_n hx hb dX1_letterFrom_15 rfl (lv_at hl 2 rfl) ?_
    refine lv_iconst (v := 0) hx hb dX1_letterFrom_16 (by decide) ?_
    refine q_rSN (As := [.int x1, .int 0]) (rest := [.long ((f_X5_at 7 K.2.1 x0).toInt64)]) ⟨hx, hb, hml, hown, hts⟩ (c_X5_bitOf l dC dI cI cJ x1 0) ⟨va_cnB 2 hts gX1_letterFrom_X5_bitOf_n50 rfl rfl rfl (nm_RX1_50 hn) (hts (.initialized RX5) (by decide +kernel)) (by decide +kernel) ⟨Nat.le_of_ble_eq_true rfl, Nat.le_of_ble_eq_true rfl⟩, hts (.static yX5_bitOf) (by decide +kernel), trivial⟩ hK hn (hP.sub (ws' := []) [] rfl) rfl hl.1 rfl (Nat.le_of_ble_eq_true rfl) dX1_letterFrom_17 ⟨Nat.zero_le _, Nat.zero_le _⟩ ?_
    refine lv_lshl (v := ((f_X5_at 7 K.2.1 x0).toInt64) <<< ((f_X5_bitOf x1 0).toInt64 &&& 63)) hx hb dX1_letterFrom_20 rfl ?_
    refine lv_goto (tgt := 25) hx hb dX1_letterFrom_21 (by decide) ?_
    exact W.lret (v := ((f_X5_at 7 K.2.1 x0).toInt64) <<< ((f_X5_bitOf x1 0).toInt64 &&& 63)) hx hb hr (fun t ht hW => ⟨congrArg (fun z => Outcome.returned (some (.long z))) hf, ht⟩) (fun q h => absurd h List.not_mem_nil) dX1_letterFrom_25
def fl_X1_addLine_10 (x0 : Int32) (K : q_Bk) : Nat → Int64 → Int32 → Int32 → Option (Int64 × Int32 × Int32)
  | 0, _, _, _ => none
  | nn + 1, i2_10, i4_10, i5_10 => (if i5_10 ≤ 0 then some (i2_10, i4_10, i5_10) else (if i5_10 = 0 then none else (if ((x0 / i5_10) - (x0 / i5_10) / 10 * 10) ≤ 0 then fl_X1_addLine_10 x0 K nn i2_10 i4_10 (i5_10 / 10) else (if i4_10 ≤ 0 then fl_X1_addLine_10 x0 K nn (i2_10 ||| (f_X1_letterFrom K ((x0 / i5_10) - (x0 / i5_10) / 10 * 10) (i4_10 + 0))) ((i4_10 + 0) + (f_X5_at 7 K.1 ((x0 / i5_10) - (x0 / i5_10) / 10 * 10))) (i5_10 / 10) else fl_X1_addLine_10 x0 K nn (i2_10 ||| (f_X1_letterFrom K ((x0 / i5_10) - (x0 / i5_10) / 10 * 10) (i4_10 + 1))) ((i4_10 + 1) + (f_X5_at 7 K.1 ((x0 / i5_10) - (x0 / i5_10) / 10 * 10))) (i5_10 / 10)))))
def f_X1_addLine (K : q_Bk) (x0 : Int32) : Option (Int32 × q_Bk) := ((fl_X1_addLine_10 x0 K 1000 0 0 1000).bind fun z_5 => some ((K.2.2.2.2.2.2 + 1) - 1, (K.1, K.2.1, (f_X5_put 8 K.2.2.1 K.2.2.2.2.2.2 x0), (f_X5_put 8 K.2.2.2.1 K.2.2.2.2.2.2 z_5.2.1), (f_X5_put_ 8 K.2.2.2.2.1 K.2.2.2.2.2.2 z_5.1), K.2.2.2.2.2.1, K.2.2.2.2.2.2 + 1)))
set_option maxHeartbeats 4000000 in
set_option maxRecDepth 100000 in
theorem c_X1_addLine (l : Launch) (dC : Nat → ClassId) (dI : Nat → Nat → Nat) (cI cJ : ClassId) (k0 : Nat) (k1 : Nat) (k2 : Nat) (k3 : Nat) (k4 : Nat) (k5 : Nat) (sz : Nat) (K : q_Bk) (x0 : Int32) (r0 : Int32 × q_Bk) (hf : f_X1_addLine K x0 = some r0) : Met l yX1_addLine wsX1_addLine ({ frames := 2, cells := 0, slots := 0, locals := 43 } : Room) (va_Pc [.ref k0, .int x0] (q_W (dC, dI) vwCl (wBk k0 k1 k2 k3 k4 k5 cI cJ K) (q_ty cI cJ) sz)) (va_Qi (S := Unit) (fun r_ _ => r_ = r0.1) (fun _ => q_E (dC, dI) vwCl (wBk k0 k1 k2 k3 k4 k5 cI cJ r0.2) (q_ty cI cJ) (va_A (wBk k0 k1 k2 k3 k4 k5 cI cJ K) sz)) (va_A (wBk k0 k1 k2 k3 k4 k5 cI cJ K) sz)) 0 0 (va_A (wBk k0 k1 k2 k3 k4 k5 cI cJ K) sz) := by
  refine Met.ofW (cc := cX1_addLine) (maxL := 7) (ret := (some .int)) (by decide) rfl ?_
  intro p e s m args below meth c s₁ BB hml hv
  obtain ⟨rfl, hsz, hP, hK, hn, hD0⟩ := hv
  have hx := BB.exec
  have hb := BB.bytes
  have hr := BB.returns
  have hts := atoms_spec (ws := wsX1_addLine) BB.pre
  have hown : s.vm.findClass RX1 = some m.cls := findClass_of_methodNamed BB.named
  have hlocks := BB.notSynchronized
  subst hsz
  have hD := hD0.self (sz := s.heap.size)
  generalize hAe : va_A (wBk k0 k1 k2 k3 k4 k5 cI cJ K) s.heap.size = A at hD ⊢
  have hA : ∀ q : Nat, s.heap.size ≤ q → A q := fun q h => by rw [← hAe]; exact Or.inr h
  have hS : va_S A s.heap s.heap [] := va_S.rf
  have hi1 : ∀ w ∈ u_ws RX1 TX1 7, w ∈ wsX1_addLine := by decide +kernel
  have hl := lv_entry [.ref k0, .int x0] (n := 7) (Nat.le_of_ble_eq_true rfl)
  rw [lg_entry_eq]
  generalize (lg_sl [.ref k0, .int x0] ++ List.replicate (7 - (lg_sl [.ref k0, .int x0]).length) Slot.unset).toArray = ls at hl ⊢
  have hl : lv_has ls 7 [(0, .ref k0), (1, .int x0)] := hl
  obtain ⟨H, hH⟩ : ∃ H, H = s.heap := ⟨_, rfl⟩
  obtain ⟨locs, hlocs⟩ : ∃ x : List Loc, x = [] := ⟨_, rfl⟩
  rw [← hH] at hP
  have hS : va_S A s.heap H locs := by rw [hH, hlocs]; exact hS
  suffices hgoal : ∀ (H : Heap) (locs : List Loc), va_P (dC, dI) vwCl (wBk k0 k1 k2 k3 k4 k5 cI cJ K) H → va_S A s.heap H locs → W p l e (headSpec wsX1_addLine ({ frames := 2, cells := 0, slots := 0, locals := 43 } : Room)).room s m [.ref k0, .int x0].toArray below meth c H locs 0 0 (MQ below (va_Qi (S := Unit) (fun r_ _ => r_ = r0.1) (fun _ => q_E (dC, dI) vwCl (wBk k0 k1 k2 k3 k4 k5 cI cJ r0.2) (q_ty cI cJ) A) A) [.ref k0, .int x0].toArray s 0 0 A) (F0 m 0 ls []) by
    have h9 := hgoal H locs hP hS
    rw [hH, hlocs] at h9
    exact h9
  clear hP hS hH H hlocs locs
  intro H locs hP hS
  unfold f_X1_addLine at hf
  refine lv_lconst (v := 0) hx hb dX1_addLine_0 (by decide) ?_
  refine lv_lstore_n (lv' := [(2, .long 0), (0, .ref k0), (1, .int x0)]) hx hb dX1_addLine_1 rfl hl (by decide) rfl (fun ls hl => ?_)
  refine lv_iconst (v := 0) hx hb dX1_addLine_2 (by decide) ?_
  refine lv_istore (lv' := [(4, .int 0), (2, .long 0), (0, .ref k0), (1, .int x0)]) hx hb dX1_addLine_3 hl (by decide) rfl (fun ls hl => ?_)
  refine lv_sipush (v := 1000) hx hb dX1_addLine_5 (by decide) ?_
  refine lv_istore (lv' := [(5, .int 1000), (4, .int 0), (2, .long 0), (0, .ref k0), (1, .int x0)]) hx hb dX1_addLine_8 hl (by decide) rfl (fun ls hl => ?_)
  have L_10 : ∀ (nn : Nat) (i2_10 : Int64) (i4_10 : Int32) (i5_10 : Int32) (H : Heap) (locs : List Loc) (ls : Array Slot) (z_10 : (Int64 × Int32 × Int32)), lv_has ls 7 [(5, .int i5_10), (4, .int i4_10), (2, .long i2_10), (0, .ref k0), (1, .int x0)] → va_P (dC, dI) vwCl (wBk k0 k1 k2 k3 k4 k5 cI cJ K) H → va_D A (wBk k0 k1 k2 k3 k4 k5 cI cJ K) → va_S A s.heap H locs → fl_X1_addLine_10 x0 K nn i2_10 i4_10 i5_10 = some z_10 → (∀ (H : Heap) (locs : List Loc) (ls : Array Slot), lv_has ls 7 [(5, .int z_10.2.2), (4, .int z_10.2.1), (2, .long z_10.1), (0, .ref k0), (1, .int x0)] → va_P (dC, dI) vwCl (wBk k0 k1 k2 k3 k4 k5 cI cJ K) H → va_D A (wBk k0 k1 k2 k3 k4 k5 cI cJ K) → va_S A s.heap H locs → W p l e (headSpec wsX1_addLine ({ frames := 2, cells := 0, slots := 0, locals := 43 } : Room)).room s m [.ref k0, .int x0].toArray below meth c H locs 0 0 (MQ below (va_Qi (S := Unit) (fun r_ _ => r_ = r0.1) (fun _ => q_E (dC, dI) vwCl (wBk k0 k1 k2 k3 k4 k5 cI cJ r0.2) (q_ty cI cJ) A) A) [.ref k0, .int x0].toArray s 0 0 A) (F0 m 79 ls [])) → W p l e (headSpec wsX1_addLine ({ frames := 2, cells := 0, slots := 0, locals := 43 } : Room)).room s m [.ref k0, .int x0].toArray below meth c H locs 0 0 (MQ below (va_Qi (S := Unit) (fun r_ _ => r_ = r0.1) (fun _ => q_E (dC, dI) vwCl (wBk k0 k1 k2 k3 k4 k5 cI cJ r0.2) (q_ty cI cJ) A) A) [.ref k0, .int x0].toArray s 0 0 A) (F0 m 10 ls []) := by
    intro nn
    induction nn with
    | zero =>
      intro i2_10 i4_10 i5_10 H locs ls z_10 hl hP hD hS hf hex_10
      rw [fl_X1_addLine_10] at hf
      cases hf
    | succ nn ih =>
      intro i2_10 i4_10 i5_10 H locs ls z_10 hl hP hD hS hf hex_10
      rw [fl_X1_addLine_10] at hf
      refine lv_iload hx hb dX1_addLine_10 (lv_at hl 0 rfl) ?_
      refine lv_if_le (tgt := 79) hx hb dX1_addLine_12 (by decide) (fun c_1 => ?_) (fun c_1 => ?_)
      · replace hf := (if_pos c_1).symm.trans hf
        replace hf := Option.some.inj hf
        subst hf
        exact hex_10 H locs ls (lv_sub hl [0, 1, 2, 3, 4] rfl) hP hD hS
      · replace hf := (if_neg c_1).symm.trans hf
        refine lv_iload_n hx hb dX1_addLine_15 rfl (lv_at hl 4 rfl) ?_
        refine lv_iload hx hb dX1_addLine_16 (lv_at hl 0 rfl) ?_
        by_cases c_2 : i5_10 = 0
        · replace hf := (if_pos c_2).symm.trans hf
          cases hf
        replace hf := (if_neg c_2).symm.trans hf
        refine lv_idiv hx hb dX1_addLine_18 c_2 ?_
        refine lv_bipush (v := 10) hx hb dX1_addLine_19 (by decide) ?_
        refine lv_irem hx hb dX1_addLine_21 (by decide) ?_
        refine lv_istore (lv' := [(6, .int ((x0 / i5_10) - (x0 / i5_10) / 10 * 10)), (5, .int i5_10), (4, .int i4_10), (2, .long i2_10), (0, .ref k0), (1, .int x0)]) hx hb dX1_addLine_22 hl (by decide) rfl (fun ls hl => ?_)
        refine lv_iload hx hb dX1_addLine_24 (lv_at hl 0 rfl) ?_
        refine lv_if_le (tgt := 69) hx hb dX1_addLine_26 (by decide) (fun c_3 => ?_) (fun c_3 => ?_)
        · replace hf := (if_pos c_3).symm.trans hf
          refine lv_iload hx hb dX1_addLine_69 (lv_at hl 1 rfl) ?_
          refine lv_bipush (v := 10) hx hb dX1_addLine_71 (by decide) ?_
          refine lv_idiv hx hb dX1_addLine_73 (by decide) ?_
          refine lv_istore (lv' := [(5, .int (i5_10 / 10)), (6, .int ((x0 / i5_10) - (x0 / i5_10) / 10 * 10)), (4, .int i4_10), (2, .long i2_10), (0, .ref k0), (1, .int x0)]) hx hb dX1_addLine_74 hl (by decide) rfl (fun ls hl => ?_)
          refine lv_goto (tgt := 10) hx hb dX1_addLine_76 (by decide) ?_
          exact ih i2_10 i4_10 (i5_10 / 10) H locs ls _ (lv_sub hl [0, 2, 3, 4, 5] rfl) hP hD hS hf hex_10
        · replace hf := (if_neg c_3).symm.trans hf
          refine lv_iload hx hb dX1_addLine_29 (lv_at hl 2 rfl) ?_
          refine lv_iload hx hb dX1_addLine_31 (lv_at hl 2 rfl) ?_
          refine lv_if_le (tgt := 40) hx hb dX1_addLine_33 (by decide) (fun c_4 => ?_) (fun c_4 => ?_)
          · replace hf := (if_pos c_4).symm.trans hf
            refine lv_iconst (v := 0) hx hb dX1_addLine_40 (by decide) ?_
            refine lv_iadd hx hb dX1_addLine_41 ?_
            refine lv_istore (lv' := [(4, .int (i4_10 + 0)), (6, .int ((x0 / i5_10) - (x0 / i5_10) / 10 * 10)), (5, .int i5_10), (2, .long i2_10), (0, .ref k0), (1, .int x0)]) hx hb dX1_addLine_42 hl (by decide) rfl (fun ls hl => ?_)
            refine lv_lload_n hx hb dX1_addLine_44 rfl (lv_at hl 3 rfl) ?_
            refine lv_aload_n hx hb dX1_addLine_45 rfl (lv_at hl 4 rfl) ?_
            refine lv_iload hx hb dX1_addLine_46 (lv_at hl 1 rfl) ?_
            refine lv_iload hx hb dX1_addLine_48 (lv_at hl 0 rfl) ?_
            refine q_rV (As := [.int ((x0 / i5_10) - (x0 / i5_10) / 10 * 10), .int (i4_10 + 0)]) (rest := [.long i2_10]) ⟨hx, hb, hml, hown, hts⟩ (c_X1_letterFrom l dC dI cI cJ k0 k1 k2 k3 k4 k5 K ((x0 / i5_10) - (x0 / i5_10) / 10 * 10) (i4_10 + 0)) (cwV 2 hts gX1_addLine_X1_letterFrom rfl rfl rfl (by decide +kernel) ⟨Nat.le_of_ble_eq_true rfl, Nat.le_of_ble_eq_true rfl⟩) hK hn hP (ci := 1) rfl rfl rfl hl.1 rfl (Nat.le_of_ble_eq_true rfl) dX1_addLine_50 ⟨Nat.zero_le _, Nat.zero_le _⟩ ?_
            refine lv_lor hx hb dX1_addLine_53 ?_
            refine lv_lstore_n (lv' := [(2, .long (i2_10 ||| (f_X1_letterFrom K ((x0 / i5_10) - (x0 / i5_10) / 10 * 10) (i4_10 + 0)))), (4, .int (i4_10 + 0)), (6, .int ((x0 / i5_10) - (x0 / i5_10) / 10 * 10)), (5, .int i5_10), (0, .ref k0), (1, .int x0)]) hx hb dX1_addLine_54 rfl hl (by decide) rfl (fun ls hl => ?_)
            refine lv_iload hx hb dX1_addLine_55 (lv_at hl 1 rfl) ?_
            refine lv_aload_n hx hb dX1_addLine_57 rfl (lv_at hl 4 rfl) ?_
            refine va_get (D := (dC, dI)) (ci := 1) (v := .ref k1) (C := RX1) (T := TX1) (N := 7) hx hb hts hi1 hown hK hP 0 rfl rfl 0 (by decide) (hts (.fieldLink RX1 9 RX1 "columnsOfLetters" "[I") (by decide +kernel)) (fun _ h9 => h9) rfl dX1_addLine_58 ?_
            refine lv_iload hx hb dX1_addLine_61 (lv_at hl 2 rfl) ?_
            refine q_rSN (As := [.ref k1, .int ((x0 / i5_10) - (x0 / i5_10) / 10 * 10)]) (rest := [.int (i4_10 + 0)]) ⟨hx, hb, hml, hown, hts⟩ (c_X5_at l dC dI cI cJ k1 7 K.1 (by decide) ((x0 / i5_10) - (x0 / i5_10) / 10 * 10)) ⟨va_cnB 2 hts gX1_addLine_X5_at_n39 rfl rfl rfl (nm_RX1_39 hn) (hts (.initialized RX5) (by decide +kernel)) (by decide +kernel) ⟨Nat.le_of_ble_eq_true rfl, Nat.le_of_ble_eq_true rfl⟩, hts (.static yX5_at) (by decide +kernel), trivial⟩ hK hn (hP.sub (ws' := [(k1, .inl (cI, 7, .inl K.1))]) [1] rfl) rfl hl.1 rfl (Nat.le_of_ble_eq_true rfl) dX1_addLine_63 ⟨Nat.zero_le _, Nat.zero_le _⟩ ?_
            refine lv_iadd hx hb dX1_addLine_66 ?_
            refine lv_istore (lv' := [(4, .int ((i4_10 + 0) + (f_X5_at 7 K.1 ((x0 / i5_10) - (x0 / i5_10) / 10 * 10)))), (2, .long (i2_10 ||| (f_X1_letterFrom K ((x0 / i5_10) - (x0 / i5_10) / 10 * 10) (i4_10 + 0)))), (6, .int ((x0 / i5_10) - (x0 / i5_10) / 10 * 10)), (5, .int i5_10), (0, .ref k0), (1, .int x0)]) hx hb dX1_addLine_67 hl (by decide) rfl (fun ls hl => ?_)
            refine lv_iload hx hb dX1_addLine_69 (lv_at hl 3 rfl) ?_
            refine lv_bipush (v := 10) hx hb dX1_addLine_71 (by decide) ?_
            refine lv_idiv hx hb dX1_addLine_73 (by decide) ?_
            refine lv_istore (lv' := [(5, .int (i5_10 / 10)), (4, .int ((i4_10 + 0) + (f_X5_at 7 K.1 ((x0 / i5_10) - (x0 / i5_10) / 10 * 10)))), (2, .long (i2_10 ||| (f_X1_letterFrom K ((x0 / i5_10) - (x0 / i5_10) / 10 * 10) (i4_10 + 0)))), (6, .int ((x0 / i5_10) - (x0 / i5_10) / 10 * 10)), (0, .ref k0), (1, .int x0)]) hx hb dX1_addLine_74 hl (by decide) rfl (fun ls hl => ?_)
            refine lv_goto (tgt := 10) hx hb dX1_addLine_76 (by decide) ?_
            exact ih (i2_10 ||| (f_X1_letterFrom K ((x0 / i5_10) - (x0 / i5_10) / 10 * 10) (i4_10 + 0))) ((i4_10 + 0) + (f_X5_at 7 K.1 ((x0 / i5_10) - (x0 / i5_10) / 10 * 10))) (i5_10 / 10) H locs ls _ (lv_sub hl [0, 1, 2, 4, 5] rfl) hP hD hS hf hex_10
          · replace hf := (if_neg c_4).symm.trans hf
            refine lv_iconst (v := 1) hx hb dX1_addLine_36 (by decide) ?_
            refine lv_goto (tgt := 41) hx hb dX1_addLine_37 (by decide) ?_
            refine lv_iadd hx hb dX1_addLine_41 ?_
            refine lv_istore (lv' := [(4, .int (i4_10 + 1)), (6, .int ((x0 / i5_10) - (x0 / i5_10) / 10 * 10)), (5, .int i5_10), (2, .long i2_10), (0, .ref k0), (1, .int x0)]) hx hb dX1_addLine_42 hl (by decide) rfl (fun ls hl => ?_)
            refine lv_lload_n hx hb dX1_addLine_44 rfl (lv_at hl 3 rfl) ?_
            refine lv_aload_n hx hb dX1_addLine_45 rfl (lv_at hl 4 rfl) ?_
            refine lv_iload hx hb dX1_addLine_46 (lv_at hl 1 rfl) ?_
            refine lv_iload hx hb dX1_addLine_48 (lv_at hl 0 rfl) ?_
            refine q_rV (As := [.int ((x0 / i5_10) - (x0 / i5_10) / 10 * 10), .int (i4_10 + 1)]) (rest := [.long i2_10]) ⟨hx, hb, hml, hown, hts⟩ (c_X1_letterFrom l dC dI cI cJ k0 k1 k2 k3 k4 k5 K ((x0 / i5_10) - (x0 / i5_10) / 10 * 10) (i4_10 + 1)) (cwV 2 hts gX1_addLine_X1_letterFrom rfl rfl rfl (by decide +kernel) ⟨Nat.le_of_ble_eq_true rfl, Nat.le_of_ble_eq_true rfl⟩) hK hn hP (ci := 1) rfl rfl rfl hl.1 rfl (Nat.le_of_ble_eq_true rfl) dX1_addLine_50 ⟨Nat.zero_le _, Nat.zero_le _⟩ ?_
            refine lv_lor hx hb dX1_addLine_53 ?_
            refine lv_lstore_n (lv' := [(2, .long (i2_10 ||| (f_X1_letterFrom K ((x0 / i5_10) - (x0 / i5_10) / 10 * 10) (i4_10 + 1)))), (4, .int (i4_10 + 1)), (6, .int ((x0 / i5_10) - (x0 / i5_10) / 10 * 10)), (5, .int i5_10), (0, .ref k0), (1, .int x0)]) hx hb dX1_addLine_54 rfl hl (by decide) rfl (fun ls hl => ?_)
            refine lv_iload hx hb dX1_addLine_55 (lv_at hl 1 rfl) ?_
            refine lv_aload_n hx hb dX1_addLine_57 rfl (lv_at hl 4 rfl) ?_
            refine va_get (D := (dC, dI)) (ci := 1) (v := .ref k1) (C := RX1) (T := TX1) (N := 7) hx hb hts hi1 hown hK hP 0 rfl rfl 0 (by decide) (hts (.fieldLink RX1 9 RX1 "columnsOfLetters" "[I") (by decide +kernel)) (fun _ h9 => h9) rfl dX1_addLine_58 ?_
            refine lv_iload hx hb dX1_addLine_61 (lv_at hl 2 rfl) ?_
            refine q_rSN (As := [.ref k1, .int ((x0 / i5_10) - (x0 / i5_10) / 10 * 10)]) (rest := [.int (i4_10 + 1)]) ⟨hx, hb, hml, hown, hts⟩ (c_X5_at l dC dI cI cJ k1 7 K.1 (by decide) ((x0 / i5_10) - (x0 / i5_10) / 10 * 10)) ⟨va_cnB 2 hts gX1_addLine_X5_at_n39 rfl rfl rfl (nm_RX1_39 hn) (hts (.initialized RX5) (by decide +kernel)) (by decide +kernel) ⟨Nat.le_of_ble_eq_true rfl, Nat.le_of_ble_eq_true rfl⟩, hts (.static yX5_at) (by decide +kernel), trivial⟩ hK hn (hP.sub (ws' := [(k1, .inl (cI, 7, .inl K.1))]) [1] rfl) rfl hl.1 rfl (Nat.le_of_ble_eq_true rfl) dX1_addLine_63 ⟨Nat.zero_le _, Nat.zero_le _⟩ ?_
            refine lv_iadd hx hb dX1_addLine_66 ?_
            refine lv_istore (lv' := [(4, .int ((i4_10 + 1) + (f_X5_at 7 K.1 ((x0 / i5_10) - (x0 / i5_10) / 10 * 10)))), (2, .long (i2_10 ||| (f_X1_letterFrom K ((x0 / i5_10) - (x0 / i5_10) / 10 * 10) (i4_10 + 1)))), (6, .int ((x0 / i5_10) - (x0 / i5_10) / 10 * 10)), (5, .int i5_10), (0, .ref k0), (1, .int x0)]) hx hb dX1_addLine_67 hl (by decide) rfl (fun ls hl => ?_)
            refine lv_iload hx hb dX1_addLine_69 (lv_at hl 3 rfl) ?_
            refine lv_bipush (v := 10) hx hb dX1_addLine_71 (by decide) ?_
            refine lv_idiv hx hb dX1_addLine_73 (by decide) ?_
            refine lv_istore (lv' := [(5, .int (i5_10 / 10)), (4, .int ((i4_10 + 1) + (f_X5_at 7 K.1 ((x0 / i5_10) - (x0 / i5_10) / 10 * 10)))), (2, .long (i2_10 ||| (f_X1_letterFrom K ((x0 / i5_10) - (x0 / i5_10) / 10 * 10) (i4_10 + 1)))), (6, .int ((x0 / i5_10) - (x0 / i5_10) / 10 * 10)), (0, .ref k0), (1, .int x0)]) hx hb dX1_addLine_74 hl (by decide) rfl (fun ls hl => ?_)
            refine lv_goto (tgt := 10) hx hb dX1_addLine_76 (by decide) ?_
            exact ih (i2_10 ||| (f_X1_letterFrom K ((x0 / i5_10) - (x0 / i5_10) / 10 * 10) (i4_10 + 1))) ((i4_10 + 1) + (f_X5_at 7 K.1 ((x0 / i5_10) - (x0 / i5_10) / 10 * 10))) (i5_10 / 10) H locs ls _ (lv_sub hl [0, 1, 2, 4, 5] rfl) hP hD hS hf hex_10
  obtain ⟨z_5, hz_5, hf⟩ := Option.bind_eq_some_iff.mp hf
  refine L_10 1000 0 0 1000 H locs ls z_5 (lv_sub hl [0, 1, 2, 3, 4] rfl) hP hD hS hz_5 (fun H locs ls hl hP hD hS => ?_)
  refine lv_aload_n hx hb dX1_addLine_79 rfl (lv_at hl 3 rfl) ?_
  refine va_get (D := (dC, dI)) (ci := 1) (v := .ref k3) (C := RX1) (T := TX1) (N := 7) hx hb hts hi1 hown hK hP 0 rfl rfl 2 (by decide) (hts (.fieldLink RX1 18 RX1 "rows" "[I") (by decide +kernel)) (fun _ h9 => h9) rfl dX1_addLine_80 ?_
  refine lv_aload_n hx hb dX1_addLine_83 rfl (lv_at hl 3 rfl) ?_
  refine va_get (D := (dC, dI)) (ci := 1) (v := .int K.2.2.2.2.2.2) (C := RX1) (T := TX1) (N := 7) hx hb hts hi1 hown hK hP 0 rfl rfl 6 (by decide) (hts (.fieldLink RX1 36 RX1 "lines" "I") (by decide +kernel)) (fun _ h9 => h9) rfl dX1_addLine_84 ?_
  refine lv_iload_n hx hb dX1_addLine_87 rfl (lv_at hl 4 rfl) ?_
  have hPc := hP.sub (ws' := [(k3, .inl (cI, 8, .inl K.2.2.1))]) [3] rfl
  have hDc := hD.sub (ws' := [(k3, .inl (cI, 8, .inl K.2.2.1))]) [3] (by decide) rfl
  have hFc := va_free (wc := [(k3, .inl (cI, 8, .inl K.2.2.1))]) hD hS hA [3] rfl
  refine va_callv (va_runSN (As := [.ref k3, .int K.2.2.2.2.2.2, .int x0]) (rest := []) ⟨hx, hb, hml, hown, hts⟩ (c_X5_put l dC dI cI cJ k3 H.size 8 K.2.2.1 (by decide) K.2.2.2.2.2.2 x0) ⟨va_cnB 3 hts gX1_addLine_X5_put_n32 rfl rfl rfl (nm_RX1_32 hn) (hts (.initialized RX5) (by decide +kernel)) (by decide +kernel) ⟨Nat.le_of_ble_eq_true rfl, Nat.le_of_ble_eq_true rfl⟩, hts (.static yX5_put) (by decide +kernel), trivial⟩ ⟨q_Wblind, q_Wpre hPc hK hn hDc⟩ rfl rfl hl.1 rfl (lv_room (Nat.le_of_ble_eq_true rfl)) dX1_addLine_88 ⟨Nat.zero_le _, Nat.zero_le _⟩) hS (fun q _ h => hFc q h) hFc (fun u t H1 locs ht hvm hw hB hz1 hk1 hS => ?_)
  obtain ⟨hP1, hK1, hD1⟩ := hB
  rw [ht] at hP1
  obtain ⟨hP, hD⟩ := va_join (wr := [(k0, .inr (1, [.ref k1, .ref k2, .ref k3, .ref k4, .ref k5, .int K.2.2.2.2.2.1, .int K.2.2.2.2.2.2])), (k1, .inl (cI, 7, .inl K.1)), (k2, .inl (cI, 7, .inl K.2.1)), (k4, .inl (cI, 8, .inl K.2.2.2.1)), (k5, .inl (cJ, 8, .inr (.inl K.2.2.2.2.1)))]) (w1 := [(k3, .inl (cI, 8, .inl (f_X5_put 8 K.2.2.1 K.2.2.2.2.2.2 x0)))]) hP hD [3] [0, 1, 2, 4, 5] rfl rfl (by decide) (by decide) hk1 hFc hP1 hD1
  generalize H1 = H at hP hS ⊢
  replace hP := hP.sub (ws' := (wBk k0 k1 k2 k3 k4 k5 cI cJ (K.1, K.2.1, (f_X5_put 8 K.2.2.1 K.2.2.2.2.2.2 x0), K.2.2.2.1, K.2.2.2.2.1, K.2.2.2.2.2.1, K.2.2.2.2.2.2))) [0, 1, 2, 5, 3, 4] rfl
  replace hD := hD.sub (ws' := (wBk k0 k1 k2 k3 k4 k5 cI cJ (K.1, K.2.1, (f_X5_put 8 K.2.2.1 K.2.2.2.2.2.2 x0), K.2.2.2.1, K.2.2.2.2.1, K.2.2.2.2.2.1, K.2.2.2.2.2.2))) [0, 1, 2, 5, 3, 4] (by decide) rfl
  have hP : va_P (dC, dI) vwCl (wBk k0 k1 k2 k3 k4 k5 cI cJ (K.1, K.2.1, (f_X5_put 8 K.2.2.1 K.2.2.2.2.2.2 x0), K.2.2.2.1, K.2.2.2.2.1, K.2.2.2.2.2.1, K.2.2.2.2.2.2)) H := hP
  have hD : va_D A (wBk k0 k1 k2 k3 k4 k5 cI cJ (K.1, K.2.1, (f_X5_put 8 K.2.2.1 K.2.2.2.2.2.2 x0), K.2.2.2.1, K.2.2.2.2.1, K.2.2.2.2.2.1, K.2.2.2.2.2.2)) := hD
  refine lv_aload_n hx hb dX1_addLine_91 rfl (lv_at hl 3 rfl) ?_
  refine va_get (D := (dC, dI)) (ci := 1) (v := .ref k4) (C := RX1) (T := TX1) (N := 7) hx hb hts hi1 hown hK hP 0 rfl rfl 3 (by decide) (hts (.fieldLink RX1 21 RX1 "lengths" "[I") (by decide +kernel)) (fun _ h9 => h9) rfl dX1_addLine_92 ?_
  refine lv_aload_n hx hb dX1_addLine_95 rfl (lv_at hl 3 rfl) ?_
  refine va_get (D := (dC, dI)) (ci := 1) (v := .int K.2.2.2.2.2.2) (C := RX1) (T := TX1) (N := 7) hx hb hts hi1 hown hK hP 0 rfl rfl 6 (by decide) (hts (.fieldLink RX1 36 RX1 "lines" "I") (by decide +kernel)) (fun _ h9 => h9) rfl dX1_addLine_96 ?_
  refine lv_iload hx hb dX1_addLine_99 (lv_at hl 1 rfl) ?_
  have hPc := hP.sub (ws' := [(k4, .inl (cI, 8, .inl K.2.2.2.1))]) [4] rfl
  have hDc := hD.sub (ws' := [(k4, .inl (cI, 8, .inl K.2.2.2.1))]) [4] (by decide) rfl
  have hFc := va_free (wc := [(k4, .inl (cI, 8, .inl K.2.2.2.1))]) hD hS hA [4] rfl
  refine va_callv (va_runSN (As := [.ref k4, .int K.2.2.2.2.2.2, .int z_5.2.1]) (rest := []) ⟨hx, hb, hml, hown, hts⟩ (c_X5_put l dC dI cI cJ k4 H.size 8 K.2.2.2.1 (by decide) K.2.2.2.2.2.2 z_5.2.1) ⟨va_cnB 3 hts gX1_addLine_X5_put_n32 rfl rfl rfl (nm_RX1_32 hn) (hts (.initialized RX5) (by decide +kernel)) (by decide +kernel) ⟨Nat.le_of_ble_eq_true rfl, Nat.le_of_ble_eq_true rfl⟩, hts (.static yX5_put) (by decide +kernel), trivial⟩ ⟨q_Wblind, q_Wpre hPc hK hn hDc⟩ rfl rfl hl.1 rfl (lv_room (Nat.le_of_ble_eq_true rfl)) dX1_addLine_101 ⟨Nat.zero_le _, Nat.zero_le _⟩) hS (fun q _ h => hFc q h) hFc (fun u t H1 locs ht hvm hw hB hz1 hk1 hS => ?_)
  obtain ⟨hP1, hK1, hD1⟩ := hB
  rw [ht] at hP1
  obtain ⟨hP, hD⟩ := va_join (wr := [(k0, .inr (1, [.ref k1, .ref k2, .ref k3, .ref k4, .ref k5, .int ((K.1, K.2.1, (f_X5_put 8 K.2.2.1 K.2.2.2.2.2.2 x0), K.2.2.2.1, K.2.2.2.2.1, K.2.2.2.2.2.1, K.2.2.2.2.2.2).2.2.2.2.2.1), .int ((K.1, K.2.1, (f_X5_put 8 K.2.2.1 K.2.2.2.2.2.2 x0), K.2.2.2.1, K.2.2.2.2.1, K.2.2.2.2.2.1, K.2.2.2.2.2.2).2.2.2.2.2.2)])), (k1, .inl (cI, 7, .inl ((K.1, K.2.1, (f_X5_put 8 K.2.2.1 K.2.2.2.2.2.2 x0), K.2.2.2.1, K.2.2.2.2.1, K.2.2.2.2.2.1, K.2.2.2.2.2.2).1))), (k2, .inl (cI, 7, .inl ((K.1, K.2.1, (f_X5_put 8 K.2.2.1 K.2.2.2.2.2.2 x0), K.2.2.2.1, K.2.2.2.2.1, K.2.2.2.2.2.1, K.2.2.2.2.2.2).2.1))), (k3, .inl (cI, 8, .inl ((K.1, K.2.1, (f_X5_put 8 K.2.2.1 K.2.2.2.2.2.2 x0), K.2.2.2.1, K.2.2.2.2.1, K.2.2.2.2.2.1, K.2.2.2.2.2.2).2.2.1))), (k5, .inl (cJ, 8, .inr (.inl ((K.1, K.2.1, (f_X5_put 8 K.2.2.1 K.2.2.2.2.2.2 x0), K.2.2.2.1, K.2.2.2.2.1, K.2.2.2.2.2.1, K.2.2.2.2.2.2).2.2.2.2.1))))]) (w1 := [(k4, .inl (cI, 8, .inl (f_X5_put 8 K.2.2.2.1 K.2.2.2.2.2.2 z_5.2.1)))]) hP hD [4] [0, 1, 2, 3, 5] rfl rfl (by decide) (by decide) hk1 hFc hP1 hD1
  generalize H1 = H at hP hS ⊢
  replace hP := hP.sub (ws' := (wBk k0 k1 k2 k3 k4 k5 cI cJ (K.1, K.2.1, (f_X5_put 8 K.2.2.1 K.2.2.2.2.2.2 x0), (f_X5_put 8 K.2.2.2.1 K.2.2.2.2.2.2 z_5.2.1), K.2.2.2.2.1, K.2.2.2.2.2.1, K.2.2.2.2.2.2))) [0, 1, 2, 3, 5, 4] rfl
  replace hD := hD.sub (ws' := (wBk k0 k1 k2 k3 k4 k5 cI cJ (K.1, K.2.1, (f_X5_put 8 K.2.2.1 K.2.2.2.2.2.2 x0), (f_X5_put 8 K.2.2.2.1 K.2.2.2.2.2.2 z_5.2.1), K.2.2.2.2.1, K.2.2.2.2.2.1, K.2.2.2.2.2.2))) [0, 1, 2, 3, 5, 4] (by decide) rfl
  have hP : va_P (dC, dI) vwCl (wBk k0 k1 k2 k3 k4 k5 cI cJ (K.1, K.2.1, (f_X5_put 8 K.2.2.1 K.2.2.2.2.2.2 x0), (f_X5_put 8 K.2.2.2.1 K.2.2.2.2.2.2 z_5.2.1), K.2.2.2.2.1, K.2.2.2.2.2.1, K.2.2.2.2.2.2)) H := hP
  have hD : va_D A (wBk k0 k1 k2 k3 k4 k5 cI cJ (K.1, K.2.1, (f_X5_put 8 K.2.2.1 K.2.2.2.2.2.2 x0), (f_X5_put 8 K.2.2.2.1 K.2.2.2.2.2.2 z_5.2.1), K.2.2.2.2.1, K.2.2.2.2.2.1, K.2.2.2.2.2.2)) := hD
  refine lv_aload_n hx hb dX1_addLine_104 rfl (lv_at hl 3 rfl) ?_
  refine va_get (D := (dC, dI)) (ci := 1) (v := .ref k5) (C := RX1) (T := TX1) (N := 7) hx hb hts hi1 hown hK hP 0 rfl rfl 4 (by decide) (hts (.fieldLink RX1 24 RX1 "forms" "[J") (by decide +kernel)) (fun _ h9 => h9) rfl dX1_addLine_105 ?_
  refine lv_aload_n hx hb dX1_addLine_108 rfl (lv_at hl 3 rfl) ?_
  refine va_get (D := (dC, dI)) (ci := 1) (v := .int K.2.2.2.2.2.2) (C := RX1) (T := TX1) (N := 7) hx hb hts hi1 hown hK hP 0 rfl rfl 6 (by decide) (hts (.fieldLink RX1 36 RX1 "lines" "I") (by decide +kernel)) (fun _ h9 => h9) rfl dX1_addLine_109 ?_
  refine lv_lload_n hx hb dX1_addLine_112 rfl (lv_at hl 2 rfl) ?_
  have hPc := hP.sub (ws' := [(k5, .inl (cJ, 8, .inr (.inl K.2.2.2.2.1)))]) [5] rfl
  have hDc := hD.sub (ws' := [(k5, .inl (cJ, 8, .inr (.inl K.2.2.2.2.1)))]) [5] (by decide) rfl
  have hFc := va_free (wc := [(k5, .inl (cJ, 8, .inr (.inl K.2.2.2.2.1)))]) hD hS hA [5] rfl
  refine va_callv (va_runSN (As := [.ref k5, .int K.2.2.2.2.2.2, .long z_5.1]) (rest := []) ⟨hx, hb, hml, hown, hts⟩ (c_X5_put_ l dC dI cI cJ k5 H.size 8 K.2.2.2.2.1 (by decide) K.2.2.2.2.2.2 z_5.1) ⟨va_cnB 3 hts gX1_addLine_X5_put__n47 rfl rfl rfl (nm_RX1_47 hn) (hts (.initialized RX5) (by decide +kernel)) (by decide +kernel) ⟨Nat.le_of_ble_eq_true rfl, Nat.le_of_ble_eq_true rfl⟩, hts (.static yX5_put_) (by decide +kernel), trivial⟩ ⟨q_Wblind, q_Wpre hPc hK hn hDc⟩ rfl rfl hl.1 rfl (lv_room (Nat.le_of_ble_eq_true rfl)) dX1_addLine_113 ⟨Nat.zero_le _, Nat.zero_le _⟩) hS (fun q _ h => hFc q h) hFc (fun u t H1 locs ht hvm hw hB hz1 hk1 hS => ?_)
  obtain ⟨hP1, hK1, hD1⟩ := hB
  rw [ht] at hP1
  obtain ⟨hP, hD⟩ := va_join (wr := [(k0, .inr (1, [.ref k1, .ref k2, .ref k3, .ref k4, .ref k5, .int ((K.1, K.2.1, (f_X5_put 8 K.2.2.1 K.2.2.2.2.2.2 x0), (f_X5_put 8 K.2.2.2.1 K.2.2.2.2.2.2 z_5.2.1), K.2.2.2.2.1, K.2.2.2.2.2.1, K.2.2.2.2.2.2).2.2.2.2.2.1), .int ((K.1, K.2.1, (f_X5_put 8 K.2.2.1 K.2.2.2.2.2.2 x0), (f_X5_put 8 K.2.2.2.1 K.2.2.2.2.2.2 z_5.2.1), K.2.2.2.2.1, K.2.2.2.2.2.1, K.2.2.2.2.2.2).2.2.2.2.2.2)])), (k1, .inl (cI, 7, .inl ((K.1, K.2.1, (f_X5_put 8 K.2.2.1 K.2.2.2.2.2.2 x0), (f_X5_put 8 K.2.2.2.1 K.2.2.2.2.2.2 z_5.2.1), K.2.2.2.2.1, K.2.2.2.2.2.1, K.2.2.2.2.2.2).1))), (k2, .inl (cI, 7, .inl ((K.1, K.2.1, (f_X5_put 8 K.2.2.1 K.2.2.2.2.2.2 x0), (f_X5_put 8 K.2.2.2.1 K.2.2.2.2.2.2 z_5.2.1), K.2.2.2.2.1, K.2.2.2.2.2.1, K.2.2.2.2.2.2).2.1))), (k3, .inl (cI, 8, .inl ((K.1, K.2.1, (f_X5_put 8 K.2.2.1 K.2.2.2.2.2.2 x0), (f_X5_put 8 K.2.2.2.1 K.2.2.2.2.2.2 z_5.2.1), K.2.2.2.2.1, K.2.2.2.2.2.1, K.2.2.2.2.2.2).2.2.1))), (k4, .inl (cI, 8, .inl ((K.1, K.2.1, (f_X5_put 8 K.2.2.1 K.2.2.2.2.2.2 x0), (f_X5_put 8 K.2.2.2.1 K.2.2.2.2.2.2 z_5.2.1), K.2.2.2.2.1, K.2.2.2.2.2.1, K.2.2.2.2.2.2).2.2.2.1)))]) (w1 := [(k5, .inl (cJ, 8, .inr (.inl (f_X5_put_ 8 K.2.2.2.2.1 K.2.2.2.2.2.2 z_5.1))))]) hP hD [5] [0, 1, 2, 3, 4] rfl rfl (by decide) (by decide) hk1 hFc hP1 hD1
  generalize H1 = H at hP hS ⊢
  have hP : va_P (dC, dI) vwCl (wBk k0 k1 k2 k3 k4 k5 cI cJ (K.1, K.2.1, (f_X5_put 8 K.2.2.1 K.2.2.2.2.2.2 x0), (f_X5_put 8 K.2.2.2.1 K.2.2.2.2.2.2 z_5.2.1), (f_X5_put_ 8 K.2.2.2.2.1 K.2.2.2.2.2.2 z_5.1), K.2.2.2.2.2.1, K.2.2.2.2.2.2)) H := hP
  have hD : va_D A (wBk k0 k1 k2 k3 k4 k5 cI cJ (K.1, K.2.1, (f_X5_put 8 K.2.2.1 K.2.2.2.2.2.2 x0), (f_X5_put 8 K.2.2.2.1 K.2.2.2.2.2.2 z_5.2.1), (f_X5_put_ 8 K.2.2.2.2.1 K.2.2.2.2.2.2 z_5.1), K.2.2.2.2.2.1, K.2.2.2.2.2.2)) := hD
  refine lv_aload_n hx hb dX1_addLine_116 rfl (lv_at hl 3 rfl) ?_
  refine lv_dup hx hb dX1_addLine_117 rfl ?_
  refine va_get (D := (dC, dI)) (ci := 1) (v := .int K.2.2.2.2.2.2) (C := RX1) (T := TX1) (N := 7) hx hb hts hi1 hown hK hP 0 rfl rfl 6 (by decide) (hts (.fieldLink RX1 36 RX1 "lines" "I") (by decide +kernel)) (fun _ h9 => h9) rfl dX1_addLine_118 ?_
  refine lv_iconst (v := 1) hx hb dX1_addLine_121 (by decide) ?_
  refine lv_iadd hx hb dX1_addLine_122 ?_
  refine va_put (D := (dC, dI)) (ci := 1) (v := .int (K.2.2.2.2.2.2 + 1)) (ty := .int) (C := RX1) (T := TX1) (N := 7) hx hb hts hi1 tyX1 tyX1_ok nmX1 hown hK hP hD hS 0 rfl rfl 6 (by decide) (hts (.fieldLink RX1 36 RX1 "lines" "I") (by decide +kernel)) (fun _ h9 => h9) rfl (by decide +kernel) rfl rfl (Nat.le_of_ble_eq_true rfl) dX1_addLine_123 (fun H locs hP hD hS => ?_)
  have hP : va_P (dC, dI) vwCl (wBk k0 k1 k2 k3 k4 k5 cI cJ (K.1, K.2.1, (f_X5_put 8 K.2.2.1 K.2.2.2.2.2.2 x0), (f_X5_put 8 K.2.2.2.1 K.2.2.2.2.2.2 z_5.2.1), (f_X5_put_ 8 K.2.2.2.2.1 K.2.2.2.2.2.2 z_5.1), K.2.2.2.2.2.1, K.2.2.2.2.2.2 + 1)) H := hP
  have hD : va_D A (wBk k0 k1 k2 k3 k4 k5 cI cJ (K.1, K.2.1, (f_X5_put 8 K.2.2.1 K.2.2.2.2.2.2 x0), (f_X5_put 8 K.2.2.2.1 K.2.2.2.2.2.2 z_5.2.1), (f_X5_put_ 8 K.2.2.2.2.1 K.2.2.2.2.2.2 z_5.1), K.2.2.2.2.2.1, K.2.2.2.2.2.2 + 1)) := hD
  refine lv_aload_n hx hb dX1_addLine_126 rfl (lv_at hl 3 rfl) ?_
  refine va_get (D := (dC, dI)) (ci := 1) (v := .int (K.2.2.2.2.2.2 + 1)) (C := RX1) (T := TX1) (N := 7) hx hb hts hi1 hown hK hP 0 rfl rfl 6 (by decide) (hts (.fieldLink RX1 36 RX1 "lines" "I") (by decide +kernel)) (fun _ h9 => h9) rfl dX1_addLine_127 ?_
  refine lv_iconst (v := 1) hx hb dX1_addLine_130 (by decide) ?_
  refine lv_isub hx hb dX1_addLine_131 ?_
  replace hf := Option.some.inj hf
  subst hf
  exact W.iret (v := (K.2.2.2.2.2.2 + 1) - 1) hx hb hr (fun t ht hW => ⟨⟨(K.2.2.2.2.2.2 + 1) - 1, (), rfl, rfl, ⟨by rw [ht]; exact hP, va_K.moved hW.alike hK, hD⟩⟩, hS.F ht⟩) hS.2.2 dX1_addLine_132
def f_X1_placed (K : q_Bk) (x0 : Int32) (x1 : Int32) : Int64 := (if x0 < 0 then 0 else (if (nI 8) ≤ x0 then 0 else (K.2.2.2.2.1 x0.toNatClampNeg) <<< ((5 * x1).toInt64 &&& 63)))
set_option maxHeartbeats 4000000 in
set_option maxRecDepth 100000 in
theorem c_X1_placed (l : Launch) (dC : Nat → ClassId) (dI : Nat → Nat → Nat) (cI cJ : ClassId) (k0 : Nat) (k1 : Nat) (k2 : Nat) (k3 : Nat) (k4 : Nat) (k5 : Nat) (K : q_Bk) (x0 : Int32) (x1 : Int32) : Met l yX1_placed wsX1_placed ({ frames := 0, cells := 0, slots := 0, locals := 0 } : Room) (va_Pc [.ref k0, .int x0, .int x1] (q_B (dC, dI) vwCl (wBk k0 k1 k2 k3 k4 k5 cI cJ K) (q_ty cI cJ))) (k2_QcV (.long (f_X1_placed K x0 x1))) 0 0 (fun _ => False) := by
  refine Met.ofW (cc := cX1_placed) (maxL := 3) (ret := (some .long)) (by decide) rfl ?_
  intro p e s m args below meth c s₁ BB hml hv
  obtain ⟨rfl, hP, hK, hn⟩ := hv
  have hx := BB.exec
  have hb := BB.bytes
  have hr := BB.returns
  have hts := atoms_spec (ws := wsX1_placed) BB.pre
  have hown : s.vm.findClass RX1 = some m.cls := findClass_of_methodNamed BB.named
  have hlocks := BB.notSynchronized
  have hi1 : ∀ w ∈ u_ws RX1 TX1 7, w ∈ wsX1_placed := by decide +kernel
  have hl := lv_entry [.ref k0, .int x0, .int x1] (n := 3) (Nat.le_of_ble_eq_true rfl)
  rw [lg_entry_eq]
  generalize (lg_sl [.ref k0, .int x0, .int x1] ++ List.replicate (3 - (lg_sl [.ref k0, .int x0, .int x1]).length) Slot.unset).toArray = ls at hl ⊢
  have hl : lv_has ls 3 [(0, .ref k0), (1, .int x0), (2, .int x1)] := hl
  generalize hf : f_X1_placed K x0 x1 = r0
  unfold f_X1_placed at hf
  refine lv_iload_n hx hb dX1_placed_0 rfl (lv_at hl 1 rfl) ?_
  refine lv_if_lt (tgt := 26) hx hb dX1_placed_1 (by decide) (fun c_1 => ?_) (fun c_1 => ?_)
  · replace hf := (if_pos c_1).symm.trans hf
    refine lv_lconst (v := 0) hx hb dX1_placed_26 (by decide) ?_
    exact W.lret (v := 0) hx hb hr (fun t ht hW => ⟨congrArg (fun z => Outcome.returned (some (.long z))) hf, ht⟩) (fun q h => absurd h List.not_mem_nil) dX1_placed_27
  · replace hf := (if_neg c_1).symm.trans hf
    refine lv_iload_n hx hb dX1_placed_4 rfl (lv_at hl 1 rfl) ?_
    refine lv_aload_n hx hb dX1_placed_5 rfl (lv_at hl 0 rfl) ?_
    refine va_get (D := (dC, dI)) (ci := 1) (v := .ref k5) (C := RX1) (T := TX1) (N := 7) hx hb hts hi1 hown hK hP 0 rfl rfl 4 (by decide) (hts (.fieldLink RX1 24 RX1 "forms" "[J") (by decide +kernel)) (fun _ h9 => h9) rfl dX1_placed_6 ?_
    refine va_alen (v := nI 8) hx hb hK hP 5 1 rfl rfl rfl dX1_placed_9 ?_
    refine lv_icmp_ge (tgt := 26) hx hb dX1_placed_10 (by decide) (fun c_2 => ?_) (fun c_2 => ?_)
    · replace hf := (if_pos c_2).symm.trans hf
      refine lv_lconst (v := 0) hx hb dX1_placed_26 (by decide) ?_
      exact W.lret (v := 0) hx hb hr (fun t ht hW => ⟨congrArg (fun z => Outcome.returned (some (.long z))) hf, ht⟩) (fun q h => absurd h List.not_mem_nil) dX1_placed_27
    · replace hf := (if_neg c_2).symm.trans hf
      refine lv_aload_n hx hb dX1_placed_13 rfl (lv_at hl 0 rfl) ?_
      refine va_get (D := (dC, dI)) (ci := 1) (v := .ref k5) (C := RX1) (T := TX1) (N := 7) hx hb hts hi1 hown hK hP 0 rfl rfl 4 (by decide) (hts (.fieldLink RX1 24 RX1 "forms" "[J") (by decide +kernel)) (fun _ h9 => h9) rfl dX1_placed_14 ?_
      refine lv_iload_n hx hb dX1_placed_17 rfl (lv_at hl 1 rfl) ?_
      refine va_lald hx hb hK hP 5 1 rfl rfl (q_in c_1 c_2 (by decide)) dX1_placed_18 ?_
      refine lv_iconst (v := 5) hx hb dX1_placed_19 (by decide) ?_
      refine lv_iload_n hx hb dX1_placed_20 rfl (lv_at hl 2 rfl) ?_
      refine lv_imul hx hb dX1_placed_21 ?_
      refine lv_lshl (v := (K.2.2.2.2.1 x0.toNatClampNeg) <<< ((5 * x1).toInt64 &&& 63)) hx hb dX1_placed_22 rfl ?_
      refine lv_goto (tgt := 27) hx hb dX1_placed_23 (by decide) ?_
      exact W.lret (v := (K.2.2.2.2.1 x0.toNatClampNeg) <<< ((5 * x1).toInt64 &&& 63)) hx hb hr (fun t ht hW => ⟨congrArg (fun z => Outcome.returned (some (.long z))) hf, ht⟩) (fun q h => absurd h List.not_mem_nil) dX1_placed_27
