def fl_L_isWell_8 (F : q_Fl) (B : q_Bd) (K : q_Bk) (I : q_Wi) (T : q_Rt) (x_1 : Int32) : Nat → Int32 → q_Pl → Option ((Int32 × q_Pl) ⊕ (Int32 × q_Pl))
  | 0, _, _ => none
  | nn + 1, i3_8, N_8 => ((f_X5_sign F B K I T 4).bind fun x_8001 => (if x_8001 ≤ i3_8 then some (.inr (i3_8, N_8)) else ((f_X5_ofLine F B K N_8 i3_8 4).bind fun x_8003 => (if x_8003.1 = 0 then ((f_X5_ofLine F B K x_8003.2 i3_8 5).bind fun x_8051 => (if x_8051.1 = 1 then (if (1 : Int32) = 1 then (if x_1 < 0 then (if x_1 < 0 then fl_L_isWell_8 F B K I T x_1 nn (i3_8 + 1) x_8051.2 else ((f_X5_ofLine F B K x_8051.2 x_1 4).bind fun x_8078 => ((f_X5_sign F B K I T 2).bind fun x_8079 => (if x_8078.1 ≤ x_8079 then fl_L_isWell_8 F B K I T x_1 nn (i3_8 + 1) x_8078.2 else some (.inl (0, x_8078.2)))))) else (if i3_8 = x_1 then (if x_1 < 0 then fl_L_isWell_8 F B K I T x_1 nn (i3_8 + 1) x_8051.2 else ((f_X5_ofLine F B K x_8051.2 x_1 4).bind fun x_8083 => ((f_X5_sign F B K I T 2).bind fun x_8084 => (if x_8083.1 ≤ x_8084 then fl_L_isWell_8 F B K I T x_1 nn (i3_8 + 1) x_8083.2 else some (.inl (0, x_8083.2)))))) else (if x_8003.1 < 0 then (if x_1 < 0 then fl_L_isWell_8 F B K I T x_1 nn (i3_8 + 1) x_8051.2 else ((f_X5_ofLine F B K x_8051.2 x_1 4).bind fun x_8088 => ((f_X5_sign F B K I T 2).bind fun x_8089 => (if x_8088.1 ≤ x_8089 then fl_L_isWell_8 F B K I T x_1 nn (i3_8 + 1) x_8088.2 else some (.inl (0, x_8088.2)))))) else ((f_X5_ofLine F B K x_8051.2 x_1 4).bind fun x_8091 => (if x_8003.1 ≤ x_8091.1 then some (.inl (0, x_8091.2)) else (if x_1 < 0 then fl_L_isWell_8 F B K I T x_1 nn (i3_8 + 1) x_8091.2 else ((f_X5_ofLine F B K x_8091.2 x_1 4).bind fun x_8094 => ((f_X5_sign F B K I T 2).bind fun x_8095 => (if x_8094.1 ≤ x_8095 then fl_L_isWell_8 F B K I T x_1 nn (i3_8 + 1) x_8094.2 else some (.inl (0, x_8094.2))))))))))) else some (.inl (0, x_8051.2))) else (if (1 : Int32) = 0 then (if x_1 < 0 then (if x_1 < 0 then fl_L_isWell_8 F B K I T x_1 nn (i3_8 + 1) x_8051.2 else ((f_X5_ofLine F B K x_8051.2 x_1 4).bind fun x_8056 => ((f_X5_sign F B K I T 2).bind fun x_8057 => (if x_8056.1 ≤ x_8057 then fl_L_isWell_8 F B K I T x_1 nn (i3_8 + 1) x_8056.2 else some (.inl (0, x_8056.2)))))) else (if i3_8 = x_1 then (if x_1 < 0 then fl_L_isWell_8 F B K I T x_1 nn (i3_8 + 1) x_8051.2 else ((f_X5_ofLine F B K x_8051.2 x_1 4).bind fun x_8061 => ((f_X5_sign F B K I T 2).bind fun x_8062 => (if x_8061.1 ≤ x_8062 then fl_L_isWell_8 F B K I T x_1 nn (i3_8 + 1) x_8061.2 else some (.inl (0, x_8061.2)))))) else (if x_8003.1 < 0 then (if x_1 < 0 then fl_L_isWell_8 F B K I T x_1 nn (i3_8 + 1) x_8051.2 else ((f_X5_ofLine F B K x_8051.2 x_1 4).bind fun x_8066 => ((f_X5_sign F B K I T 2).bind fun x_8067 => (if x_8066.1 ≤ x_8067 then fl_L_isWell_8 F B K I T x_1 nn (i3_8 + 1) x_8066.2 else some (.inl (0, x_8066.2)))))) else ((f_X5_ofLine F B K x_8051.2 x_1 4).bind fun x_8069 => (if x_8003.1 ≤ x_8069.1 then some (.inl (0, x_8069.2)) else (if x_1 < 0 then fl_L_isWell_8 F B K I T x_1 nn (i3_8 + 1) x_8069.2 else ((f_X5_ofLine F B K x_8069.2 x_1 4).bind fun x_8072 => ((f_X5_sign F B K I T 2).bind fun x_8073 => (if x_8072.1 ≤ x_8073 then fl_L_isWell_8 F B K I T x_1 nn (i3_8 + 1) x_8072.2 else some (.inl (0, x_8072.2))))))))))) else some (.inl (0, x_8051.2))))) else ((f_X5_ofLine F B K x_8003.2 i3_8 5).bind fun x_8005 => (if x_8005.1 = 1 then (if (0 : Int32) = 1 then (if x_1 < 0 then (if x_1 < 0 then fl_L_isWell_8 F B K I T x_1 nn (i3_8 + 1) x_8005.2 else ((f_X5_ofLine F B K x_8005.2 x_1 4).bind fun x_8032 => ((f_X5_sign F B K I T 2).bind fun x_8033 => (if x_8032.1 ≤ x_8033 then fl_L_isWell_8 F B K I T x_1 nn (i3_8 + 1) x_8032.2 else some (.inl (0, x_8032.2)))))) else (if i3_8 = x_1 then (if x_1 < 0 then fl_L_isWell_8 F B K I T x_1 nn (i3_8 + 1) x_8005.2 else ((f_X5_ofLine F B K x_8005.2 x_1 4).bind fun x_8037 => ((f_X5_sign F B K I T 2).bind fun x_8038 => (if x_8037.1 ≤ x_8038 then fl_L_isWell_8 F B K I T x_1 nn (i3_8 + 1) x_8037.2 else some (.inl (0, x_8037.2)))))) else (if x_8003.1 < 0 then (if x_1 < 0 then fl_L_isWell_8 F B K I T x_1 nn (i3_8 + 1) x_8005.2 else ((f_X5_ofLine F B K x_8005.2 x_1 4).bind fun x_8042 => ((f_X5_sign F B K I T 2).bind fun x_8043 => (if x_8042.1 ≤ x_8043 then fl_L_isWell_8 F B K I T x_1 nn (i3_8 + 1) x_8042.2 else some (.inl (0, x_8042.2)))))) else ((f_X5_ofLine F B K x_8005.2 x_1 4).bind fun x_8045 => (if x_8003.1 ≤ x_8045.1 then some (.inl (0, x_8045.2)) else (if x_1 < 0 then fl_L_isWell_8 F B K I T x_1 nn (i3_8 + 1) x_8045.2 else ((f_X5_ofLine F B K x_8045.2 x_1 4).bind fun x_8048 => ((f_X5_sign F B K I T 2).bind fun x_8049 => (if x_8048.1 ≤ x_8049 then fl_L_isWell_8 F B K I T x_1 nn (i3_8 + 1) x_8048.2 else some (.inl (0, x_8048.2))))))))))) else some (.inl (0, x_8005.2))) else (if (0 : Int32) = 0 then (if x_1 < 0 then (if x_1 < 0 then fl_L_isWell_8 F B K I T x_1 nn (i3_8 + 1) x_8005.2 else ((f_X5_ofLine F B K x_8005.2 x_1 4).bind fun x_8010 => ((f_X5_sign F B K I T 2).bind fun x_8011 => (if x_8010.1 ≤ x_8011 then fl_L_isWell_8 F B K I T x_1 nn (i3_8 + 1) x_8010.2 else some (.inl (0, x_8010.2)))))) else (if i3_8 = x_1 then (if x_1 < 0 then fl_L_isWell_8 F B K I T x_1 nn (i3_8 + 1) x_8005.2 else ((f_X5_ofLine F B K x_8005.2 x_1 4).bind fun x_8015 => ((f_X5_sign F B K I T 2).bind fun x_8016 => (if x_8015.1 ≤ x_8016 then fl_L_isWell_8 F B K I T x_1 nn (i3_8 + 1) x_8015.2 else some (.inl (0, x_8015.2)))))) else (if x_8003.1 < 0 then (if x_1 < 0 then fl_L_isWell_8 F B K I T x_1 nn (i3_8 + 1) x_8005.2 else ((f_X5_ofLine F B K x_8005.2 x_1 4).bind fun x_8020 => ((f_X5_sign F B K I T 2).bind fun x_8021 => (if x_8020.1 ≤ x_8021 then fl_L_isWell_8 F B K I T x_1 nn (i3_8 + 1) x_8020.2 else some (.inl (0, x_8020.2)))))) else ((f_X5_ofLine F B K x_8005.2 x_1 4).bind fun x_8023 => (if x_8003.1 ≤ x_8023.1 then some (.inl (0, x_8023.2)) else (if x_1 < 0 then fl_L_isWell_8 F B K I T x_1 nn (i3_8 + 1) x_8023.2 else ((f_X5_ofLine F B K x_8023.2 x_1 4).bind fun x_8026 => ((f_X5_sign F B K I T 2).bind fun x_8027 => (if x_8026.1 ≤ x_8027 then fl_L_isWell_8 F B K I T x_1 nn (i3_8 + 1) x_8026.2 else some (.inl (0, x_8026.2))))))))))) else some (.inl (0, x_8005.2)))))))))
def fl_L_isWell_117 (B : q_Bd) (i3_106 : Int32) : Nat → Int32 → Int32 → Option (Int32 × Int32)
  | 0, _, _ => none
  | nn + 1, i4_117, i5_117 => (if 5 ≤ i5_117 then some (i4_117, i5_117) else ((f_X5_dot B i3_106 i5_117 1).bind fun x_117002 => fl_L_isWell_117 B i3_106 nn (i4_117 + x_117002) (i5_117 + 1)))
def fl_L_isWell_106 (x1 : Int32) (B : q_Bd) (y_3 : Int32 × q_Pl) : Nat → Int32 → Option ((Int32 × q_Pl) ⊕ (Int32))
  | 0, _ => none
  | nn + 1, i3_106 => (if x1 ≤ i3_106 then some (.inr i3_106) else ((fl_L_isWell_117 B i3_106 1000 0 0).bind fun z_106002 => ((f_X5_column B i3_106 1).bind fun x_106003 => (if x_106003 ≤ z_106002.1 then fl_L_isWell_106 x1 B y_3 nn (i3_106 + 1) else some (.inl (0, y_3.2))))))
def f_L_isWell (F : q_Fl) (B : q_Bd) (K : q_Bk) (N : q_Pl) (I : q_Wi) (T : q_Rt) (x1 : Int32) : Option (Int32 × q_Pl) := ((f_X5_sign F B K I T 5).bind fun x_1 => ((fl_L_isWell_8 F B K I T x_1 1000 0 N).bind fun z_2 => Sum.elim (fun r_ => some r_) (fun y_3 => ((fl_L_isWell_106 x1 B y_3 1000 0).bind fun z_4 => Sum.elim (fun r_ => some r_) (fun y_5 => ((f_X5_isSound F B K y_3.2 T).bind fun x_6 => some (x_6.1, x_6.2))) z_4)) z_2))
set_option maxHeartbeats 8000000 in
set_option maxRecDepth 100000 in
theorem c_L_isWell (l : Launch) (dC : Nat → ClassId) (dI : Nat → Nat → Nat) (cI cJ : ClassId) (a : Nat → Nat) (sz : Nat) (F : q_Fl) (B : q_Bd) (K : q_Bk) (N : q_Pl) (I : q_Wi) (T : q_Rt) (x1 : Int32) (r0 : Int32 × q_Pl) (hf : f_L_isWell F B K N I T x1 = some r0) : Met l yL_isWell wsM_isWell ({ frames := 6, cells := 0, slots := 0, locals := 138 } : Room) (va_Pc [.ref (a 0), .int x1] (q_W (dC, dI) vwCl (wSg a cI cJ F B K N I T) (q_ty cI cJ) sz)) (va_Qi (S := Unit) (fun r_ _ => r_ = r0.1) (fun _ => q_E (dC, dI) vwCl (wSg a cI cJ F B K r0.2 I T) (q_ty cI cJ) (va_A (wSg a cI cJ F B K N I T) sz)) (va_A (wSg a cI cJ F B K N I T) sz)) 0 0 (va_A (wSg a cI cJ F B K N I T) sz) := by
  refine Met.ofW (cc := cL_isWell) (maxL := 6) (ret := (some .boolean)) (by decide) rfl ?_
  intro p e s m args below meth c s₁ BB hml hv
  obtain ⟨rfl, hsz, hP, hK, hn, hD0⟩ := hv
  have hx := BB.exec
  have hb := BB.bytes
  have hr := BB.returns
  have hts := atoms_spec (ws := wsM_isWell) BB.pre
  have hown : s.vm.findClass RL = some m.cls := findClass_of_methodNamed BB.named
  have hlocks := BB.notSynchronized
  subst hsz
  have hD := hD0.self (sz := s.heap.size)
  generalize hAe : va_A (wSg a cI cJ F B K N I T) s.heap.size = A at hD ⊢
  have hA : ∀ q : Nat, s.heap.size ≤ q → A q := fun q h => by rw [← hAe]; exact Or.inr h
  have hS : va_S A s.heap s.heap [] := va_S.rf
  have hl := lv_entry [.ref (a 0), .int x1] (n := 6) (Nat.le_of_ble_eq_true rfl)
  rw [lg_entry_eq]
  generalize (lg_sl [.ref (a 0), .int x1] ++ List.replicate (6 - (lg_sl [.ref (a 0), .int x1]).length) Slot.unset).toArray = ls at hl ⊢
  have hl : lv_has ls 6 [(0, .ref (a 0)), (1, .int x1)] := hl
  suffices hgoal : ∀ (H : Heap) (locs : List Loc), va_P (dC, dI) vwCl (wSg a cI cJ F B K N I T) H → va_S A s.heap H locs → W p l e (headSpec wsM_isWell ({ frames := 6, cells := 0, slots := 0, locals := 138 } : Room)).room s m [.ref (a 0), .int x1].toArray below meth c H locs 0 0 (MQ below (va_Qi (S := Unit) (fun r_ _ => r_ = r0.1) (fun _ => q_E (dC, dI) vwCl (wSg a cI cJ F B K r0.2 I T) (q_ty cI cJ) A) A) [.ref (a 0), .int x1].toArray s 0 0 A) (F0 m 0 ls []) by
    refine W.widen (k := 0) (n := 0) (by omega) (by omega) ?_
    exact hgoal s.heap [] hP hS
  clear hP hS
  intro H locs hP hS
  unfold f_L_isWell at hf
  refine lv_aload_n hx hb dL_isWell_0 rfl (lv_at hl 0 rfl) ?_
  refine lv_iconst (v := 5) hx hb dL_isWell_1 (by decide) ?_
  obtain ⟨x_1, hx_1, hf⟩ := Option.bind_eq_some_iff.mp hf
  refine q_rV (As := [.int 5]) (rest := []) ⟨hx, hb, hml, hown, hts⟩ (c_X5_sign l dC dI cI cJ a F B K N I T 5 x_1 hx_1) (cwV 1 hts gM_isWell_X5_sign rfl rfl rfl (by decide +kernel) ⟨Nat.le_of_ble_eq_true rfl, Nat.le_of_ble_eq_true rfl⟩) hK hn hP (ci := 5) rfl rfl rfl hl.1 rfl (Nat.le_of_ble_eq_true rfl) dL_isWell_2 ⟨by show 0 ≤ 0; omega, by show 0 ≤ 0; omega⟩ ?_
  refine lv_istore_n (lv' := [(2, .int x_1), (0, .ref (a 0)), (1, .int x1)]) hx hb dL_isWell_5 rfl hl (by decide) rfl (fun ls hl => ?_)
  refine lv_iconst (v := 0) hx hb dL_isWell_6 (by decide) ?_
  refine lv_istore_n (lv' := [(3, .int 0), (2, .int x_1), (0, .ref (a 0)), (1, .int x1)]) hx hb dL_isWell_7 rfl hl (by decide) rfl (fun ls hl => ?_)
  have L_8 : ∀ (nn : Nat) (i3_8 : Int32) (N_8 : q_Pl) (H : Heap) (locs : List Loc) (ls : Array Slot) (z_8 : ((Int32 × q_Pl) ⊕ (Int32 × q_Pl))), lv_has ls 6 [(3, .int i3_8), (2, .int x_1), (0, .ref (a 0)), (1, .int x1)] → va_P (dC, dI) vwCl (wSg a cI cJ F B K N_8 I T) H → va_D A (wSg a cI cJ F B K N_8 I T) → va_S A s.heap H locs → fl_L_isWell_8 F B K I T x_1 nn i3_8 N_8 = some z_8 → (∀ r_ : Int32 × q_Pl, z_8 = .inl r_ → r_ = r0) → (∀ (y : Int32 × q_Pl) (H : Heap) (locs : List Loc) (ls : Array Slot), z_8 = .inr y → lv_has ls 6 [(3, .int y.1), (2, .int x_1), (0, .ref (a 0)), (1, .int x1)] → va_P (dC, dI) vwCl (wSg a cI cJ F B K y.2 I T) H → va_D A (wSg a cI cJ F B K y.2 I T) → va_S A s.heap H locs → W p l e (headSpec wsM_isWell ({ frames := 6, cells := 0, slots := 0, locals := 138 } : Room)).room s m [.ref (a 0), .int x1].toArray below meth c H locs 0 0 (MQ below (va_Qi (S := Unit) (fun r_ _ => r_ = r0.1) (fun _ => q_E (dC, dI) vwCl (wSg a cI cJ F B K r0.2 I T) (q_ty cI cJ) A) A) [.ref (a 0), .int x1].toArray s 0 0 A) (F0 m 104 ls [])) → W p l e (headSpec wsM_isWell ({ frames := 6, cells := 0, slots := 0, locals := 138 } : Room)).room s m [.ref (a 0), .int x1].toArray below meth c H locs 0 0 (MQ below (va_Qi (S := Unit) (fun r_ _ => r_ = r0.1) (fun _ => q_E (dC, dI) vwCl (wSg a cI cJ F B K r0.2 I T) (q_ty cI cJ) A) A) [.ref (a 0), .int x1].toArray s 0 0 A) (F0 m 8 ls []) := by
    intro nn
    induction nn with
    | zero =>
      intro i3_8 N_8 H locs ls z_8 hl hP hD hS hf hret_8 hex_8
      rw [fl_L_isWell_8] at hf
      cases hf
    | succ nn ih =>
      intro i3_8 N_8 H locs ls z_8 hl hP hD hS hf hret_8 hex_8
      rw [fl_L_isWell_8] at hf
      refine lv_iload_n hx hb dL_isWell_8 rfl (lv_at hl 0 rfl) ?_
      refine lv_aload_n hx hb dL_isWell_9 rfl (lv_at hl 2 rfl) ?_
      refine lv_iconst (v := 4) hx hb dL_isWell_10 (by decide) ?_
      obtain ⟨x_8001, hx_8001, hf⟩ := Option.bind_eq_some_iff.mp hf
      refine q_rV (As := [.int 4]) (rest := [.int i3_8]) ⟨hx, hb, hml, hown, hts⟩ (c_X5_sign l dC dI cI cJ a F B K N_8 I T 4 x_8001 hx_8001) (cwV 1 hts gM_isWell_X5_sign rfl rfl rfl (by decide +kernel) ⟨Nat.le_of_ble_eq_true rfl, Nat.le_of_ble_eq_true rfl⟩) hK hn hP (ci := 5) rfl rfl rfl hl.1 rfl (Nat.le_of_ble_eq_true rfl) dL_isWell_11 ⟨by show 0 ≤ 0; omega, by show 0 ≤ 0; omega⟩ ?_
      refine lv_icmp_ge (tgt := 104) hx hb dL_isWell_14 (by decide) (fun c_8002 => ?_) (fun c_8002 => ?_)
      · replace hf := (if_pos c_8002).symm.trans hf
        exact hex_8 (i3_8, N_8) H locs ls (Option.some.inj hf).symm (lv_sub hl [0, 1, 2, 3] rfl) hP hD hS
      · replace hf := (if_neg c_8002).symm.trans hf
        refine lv_aload_n hx hb dL_isWell_17 rfl (lv_at hl 2 rfl) ?_
        refine lv_iload_n hx hb dL_isWell_18 rfl (lv_at hl 0 rfl) ?_
        refine lv_iconst (v := 4) hx hb dL_isWell_19 (by decide) ?_
        obtain ⟨x_8003, hx_8003, hf⟩ := Option.bind_eq_some_iff.mp hf
        have hFc := va_free (wc := (wSg a cI cJ F B K N_8 I T)) hD hS hA [0, 1, 2, 3, 4, 5, 6, 7, 8, 9, 10, 11, 12, 13, 14, 15, 16, 17] rfl
        refine va_calli (va_runV (As := [.int i3_8, .int 4]) (rest := []) ⟨hx, hb, hml, hown, hts⟩ (c_X5_ofLine l dC dI cI cJ a H.size F B K N_8 I T i3_8 4 x_8003 hx_8003) (cwV 2 hts gM_isWell_X5_ofLine rfl rfl rfl (by decide +kernel) ⟨Nat.le_of_ble_eq_true rfl, Nat.le_of_ble_eq_true rfl⟩) ⟨q_Wblind, va_recv hK hP (ci := 5) (q0 := 0) rfl rfl, q_Wpre hP hK hn hD⟩ rfl rfl hl.1 rfl (lv_room (Nat.le_of_ble_eq_true rfl)) dL_isWell_20 ⟨by show 0 + 0 ≤ 0; omega, by show 0 + 0 ≤ 0; omega⟩) hS (fun q _ h => hFc q h) hFc (fun r_9 u t H1 locs ht hvm hw hB hz1 hk1 hS => ?_)
        subst hw
        obtain ⟨hP1, hK1, hD1⟩ := hB
        rw [ht] at hP1
        obtain ⟨hP, hD⟩ := va_join (wr := []) (w1 := (wSg a cI cJ F B K x_8003.2 I T)) hP hD [0, 1, 2, 3, 4, 5, 6, 7, 8, 9, 10, 11, 12, 13, 14, 15, 16, 17] [] rfl rfl (by decide) (by decide) hk1 hFc hP1 hD1
        generalize H1 = H at hP hS ⊢
        have hP : va_P (dC, dI) vwCl (wSg a cI cJ F B K x_8003.2 I T) H := hP
        have hD : va_D A (wSg a cI cJ F B K x_8003.2 I T) := hD
        refine lv_istore (lv' := [(4, .int x_8003.1), (3, .int i3_8), (2, .int x_1), (0, .ref (a 0)), (1, .int x1)]) hx hb dL_isWell_23 hl (by decide) rfl (fun ls hl => ?_)
        refine lv_iload hx hb dL_isWell_25 (lv_at hl 0 rfl) ?_
        refine lv_if_ne (tgt := 34) hx hb dL_isWell_27 (by decide) (fun c_8004 => ?_) (fun c_8004 => ?_)
        · replace hf := (if_neg c_8004).symm.trans hf
          refine lv_iconst (v := 0) hx hb dL_isWell_34 (by decide) ?_
          refine lv_aload_n hx hb dL_isWell_35 rfl (lv_at hl 3 rfl) ?_
          refine lv_iload_n hx hb dL_isWell_36 rfl (lv_at hl 1 rfl) ?_
          refine lv_iconst (v := 5) hx hb dL_isWell_37 (by decide) ?_
          obtain ⟨x_8005, hx_8005, hf⟩ := Option.bind_eq_some_iff.mp hf
          have hFc := va_free (wc := (wSg a cI cJ F B K x_8003.2 I T)) hD hS hA [0, 1, 2, 3, 4, 5, 6, 7, 8, 9, 10, 11, 12, 13, 14, 15, 16, 17] rfl
          refine va_calli (va_runV (As := [.int i3_8, .int 5]) (rest := [.int 0]) ⟨hx, hb, hml, hown, hts⟩ (c_X5_ofLine l dC dI cI cJ a H.size F B K x_8003.2 I T i3_8 5 x_8005 hx_8005) (cwV 2 hts gM_isWell_X5_ofLine rfl rfl rfl (by decide +kernel) ⟨Nat.le_of_ble_eq_true rfl, Nat.le_of_ble_eq_true rfl⟩) ⟨q_Wblind, va_recv hK hP (ci := 5) (q0 := 0) rfl rfl, q_Wpre hP hK hn hD⟩ rfl rfl hl.1 rfl (lv_room (Nat.le_of_ble_eq_true rfl)) dL_isWell_38 ⟨by show 0 + 0 ≤ 0; omega, by show 0 + 0 ≤ 0; omega⟩) hS (fun q _ h => hFc q h) hFc (fun r_9 u t H1 locs ht hvm hw hB hz1 hk1 hS => ?_)
          subst hw
          obtain ⟨hP1, hK1, hD1⟩ := hB
          rw [ht] at hP1
          obtain ⟨hP, hD⟩ := va_join (wr := []) (w1 := (wSg a cI cJ F B K x_8005.2 I T)) hP hD [0, 1, 2, 3, 4, 5, 6, 7, 8, 9, 10, 11, 12, 13, 14, 15, 16, 17] [] rfl rfl (by decide) (by decide) hk1 hFc hP1 hD1
          generalize H1 = H at hP hS ⊢
          have hP : va_P (dC, dI) vwCl (wSg a cI cJ F B K x_8005.2 I T) H := hP
          have hD : va_D A (wSg a cI cJ F B K x_8005.2 I T) := hD
          refine lv_iconst (v := 1) hx hb dL_isWell_41 (by decide) ?_
          refine lv_icmp_ne (tgt := 49) hx hb dL_isWell_42 (by decide) (fun c_8006 => ?_) (fun c_8006 => ?_)
          · replace hf := (if_neg c_8006).symm.trans hf
            refine lv_iconst (v := 0) hx hb dL_isWell_49 (by decide) ?_
            refine lv_icmp_ne (tgt := 96) hx hb dL_isWell_50 (by decide) (fun c_8007 => ?_) (fun c_8007 => ?_)
            · replace hf := (if_neg c_8007).symm.trans hf
              refine lv_iconst (v := 0) hx hb dL_isWell_96 (by decide) ?_
              replace hf := hret_8 (0, x_8005.2) (Option.some.inj hf).symm
              subst hf
              have hP9 := hP
              have hD9 := hD
              exact W.zret (v := 0) (ty := .boolean) hx hb hr rfl (fun t ht hW => ⟨⟨0, (), rfl, rfl, ⟨by rw [ht]; exact hP9, va_K.moved hW.alike hK, hD9⟩⟩, hS.F ht⟩) hS.2.2 dL_isWell_97
            · replace hf := (if_pos c_8007).symm.trans hf
              refine lv_iload_n hx hb dL_isWell_53 rfl (lv_at hl 2 rfl) ?_
              refine lv_if_lt (tgt := 78) hx hb dL_isWell_54 (by decide) (fun c_8008 => ?_) (fun c_8008 => ?_)
              · replace hf := (if_pos c_8008).symm.trans hf
                refine lv_iload_n hx hb dL_isWell_78 rfl (lv_at hl 2 rfl) ?_
                refine lv_if_lt (tgt := 98) hx hb dL_isWell_79 (by decide) (fun c_8009 => ?_) (fun c_8009 => ?_)
                · replace hf := (if_pos c_8009).symm.trans hf
                  refine lv_iinc (v := i3_8 + 1) (lv' := [(3, .int (i3_8 + 1)), (4, .int x_8003.1), (2, .int x_1), (0, .ref (a 0)), (1, .int x1)]) hx hb dL_isWell_98 hl (k := 1) rfl rfl (by decide) rfl (fun ls hl => ?_)
                  refine lv_goto (tgt := 8) hx hb dL_isWell_101 (by decide) ?_
                  exact ih (i3_8 + 1) x_8005.2 H locs ls _ (lv_sub hl [0, 2, 3, 4] rfl) hP hD hS hf hret_8 hex_8
                · replace hf := (if_neg c_8009).symm.trans hf
                  refine lv_aload_n hx hb dL_isWell_82 rfl (lv_at hl 3 rfl) ?_
                  refine lv_iload_n hx hb dL_isWell_83 rfl (lv_at hl 2 rfl) ?_
                  refine lv_iconst (v := 4) hx hb dL_isWell_84 (by decide) ?_
                  obtain ⟨x_8010, hx_8010, hf⟩ := Option.bind_eq_some_iff.mp hf
                  have hFc := va_free (wc := (wSg a cI cJ F B K x_8005.2 I T)) hD hS hA [0, 1, 2, 3, 4, 5, 6, 7, 8, 9, 10, 11, 12, 13, 14, 15, 16, 17] rfl
                  refine va_calli (va_runV (As := [.int x_1, .int 4]) (rest := []) ⟨hx, hb, hml, hown, hts⟩ (c_X5_ofLine l dC dI cI cJ a H.size F B K x_8005.2 I T x_1 4 x_8010 hx_8010) (cwV 2 hts gM_isWell_X5_ofLine rfl rfl rfl (by decide +kernel) ⟨Nat.le_of_ble_eq_true rfl, Nat.le_of_ble_eq_true rfl⟩) ⟨q_Wblind, va_recv hK hP (ci := 5) (q0 := 0) rfl rfl, q_Wpre hP hK hn hD⟩ rfl rfl hl.1 rfl (lv_room (Nat.le_of_ble_eq_true rfl)) dL_isWell_85 ⟨by show 0 + 0 ≤ 0; omega, by show 0 + 0 ≤ 0; omega⟩) hS (fun q _ h => hFc q h) hFc (fun r_9 u t H1 locs ht hvm hw hB hz1 hk1 hS => ?_)
                  subst hw
                  obtain ⟨hP1, hK1, hD1⟩ := hB
                  rw [ht] at hP1
                  obtain ⟨hP, hD⟩ := va_join (wr := []) (w1 := (wSg a cI cJ F B K x_8010.2 I T)) hP hD [0, 1, 2, 3, 4, 5, 6, 7, 8, 9, 10, 11, 12, 13, 14, 15, 16, 17] [] rfl rfl (by decide) (by decide) hk1 hFc hP1 hD1
                  generalize H1 = H at hP hS ⊢
                  have hP : va_P (dC, dI) vwCl (wSg a cI cJ F B K x_8010.2 I T) H := hP
                  have hD : va_D A (wSg a cI cJ F B K x_8010.2 I T) := hD
                  refine lv_aload_n hx hb dL_isWell_88 rfl (lv_at hl 3 rfl) ?_
                  refine lv_iconst (v := 2) hx hb dL_isWell_89 (by decide) ?_
                  obtain ⟨x_8011, hx_8011, hf⟩ := Option.bind_eq_some_iff.mp hf
                  refine q_rV (As := [.int 2]) (rest := [.int x_8010.1]) ⟨hx, hb, hml, hown, hts⟩ (c_X5_sign l dC dI cI cJ a F B K x_8010.2 I T 2 x_8011 hx_8011) (cwV 1 hts gM_isWell_X5_sign rfl rfl rfl (by decide +kernel) ⟨Nat.le_of_ble_eq_true rfl, Nat.le_of_ble_eq_true rfl⟩) hK hn hP (ci := 5) rfl rfl rfl hl.1 rfl (Nat.le_of_ble_eq_true rfl) dL_isWell_90 ⟨by show 0 ≤ 0; omega, by show 0 ≤ 0; omega⟩ ?_
                  refine lv_icmp_le (tgt := 98) hx hb dL_isWell_93 (by decide) (fun c_8012 => ?_) (fun c_8012 => ?_)
                  · replace hf := (if_pos c_8012).symm.trans hf
                    refine lv_iinc (v := i3_8 + 1) (lv' := [(3, .int (i3_8 + 1)), (4, .int x_8003.1), (2, .int x_1), (0, .ref (a 0)), (1, .int x1)]) hx hb dL_isWell_98 hl (k := 1) rfl rfl (by decide) rfl (fun ls hl => ?_)
                    refine lv_goto (tgt := 8) hx hb dL_isWell_101 (by decide) ?_
                    exact ih (i3_8 + 1) x_8010.2 H locs ls _ (lv_sub hl [0, 2, 3, 4] rfl) hP hD hS hf hret_8 hex_8
                  · replace hf := (if_neg c_8012).symm.trans hf
                    refine lv_iconst (v := 0) hx hb dL_isWell_96 (by decide) ?_
                    replace hf := hret_8 (0, x_8010.2) (Option.some.inj hf).symm
                    subst hf
                    have hP9 := hP
                    have hD9 := hD
                    exact W.zret (v := 0) (ty := .boolean) hx hb hr rfl (fun t ht hW => ⟨⟨0, (), rfl, rfl, ⟨by rw [ht]; exact hP9, va_K.moved hW.alike hK, hD9⟩⟩, hS.F ht⟩) hS.2.2 dL_isWell_97
              · replace hf := (if_neg c_8008).symm.trans hf
                refine lv_iload_n hx hb dL_isWell_57 rfl (lv_at hl 1 rfl) ?_
                refine lv_iload_n hx hb dL_isWell_58 rfl (lv_at hl 2 rfl) ?_
                refine lv_icmp_eq (tgt := 78) hx hb dL_isWell_59 (by decide) (fun c_8013 => ?_) (fun c_8013 => ?_)
                · replace hf := (if_pos c_8013).symm.trans hf
                  refine lv_iload_n hx hb dL_isWell_78 rfl (lv_at hl 2 rfl) ?_
                  refine lv_if_lt (tgt := 98) hx hb dL_isWell_79 (by decide) (fun c_8014 => ?_) (fun c_8014 => ?_)
                  · replace hf := (if_pos c_8014).symm.trans hf
                    refine lv_iinc (v := i3_8 + 1) (lv' := [(3, .int (i3_8 + 1)), (4, .int x_8003.1), (2, .int x_1), (0, .ref (a 0)), (1, .int x1)]) hx hb dL_isWell_98 hl (k := 1) rfl rfl (by decide) rfl (fun ls hl => ?_)
                    refine lv_goto (tgt := 8) hx hb dL_isWell_101 (by decide) ?_
                    exact ih (i3_8 + 1) x_8005.2 H locs ls _ (lv_sub hl [0, 2, 3, 4] rfl) hP hD hS hf hret_8 hex_8
                  · replace hf := (if_neg c_8014).symm.trans hf
                    refine lv_aload_n hx hb dL_isWell_82 rfl (lv_at hl 3 rfl) ?_
                    refine lv_iload_n hx hb dL_isWell_83 rfl (lv_at hl 2 rfl) ?_
                    refine lv_iconst (v := 4) hx hb dL_isWell_84 (by decide) ?_
                    obtain ⟨x_8015, hx_8015, hf⟩ := Option.bind_eq_some_iff.mp hf
                    have hFc := va_free (wc := (wSg a cI cJ F B K x_8005.2 I T)) hD hS hA [0, 1, 2, 3, 4, 5, 6, 7, 8, 9, 10, 11, 12, 13, 14, 15, 16, 17] rfl
                    refine va_calli (va_runV (As := [.int x_1, .int 4]) (rest := []) ⟨hx, hb, hml, hown, hts⟩ (c_X5_ofLine l dC dI cI cJ a H.size F B K x_8005.2 I T x_1 4 x_8015 hx_8015) (cwV 2 hts gM_isWell_X5_ofLine rfl rfl rfl (by decide +kernel) ⟨Nat.le_of_ble_eq_true rfl, Nat.le_of_ble_eq_true rfl⟩) ⟨q_Wblind, va_recv hK hP (ci := 5) (q0 := 0) rfl rfl, q_Wpre hP hK hn hD⟩ rfl rfl hl.1 rfl (lv_room (Nat.le_of_ble_eq_true rfl)) dL_isWell_85 ⟨by show 0 + 0 ≤ 0; omega, by show 0 + 0 ≤ 0; omega⟩) hS (fun q _ h => hFc q h) hFc (fun r_9 u t H1 locs ht hvm hw hB hz1 hk1 hS => ?_)
                    subst hw
                    obtain ⟨hP1, hK1, hD1⟩ := hB
                    rw [ht] at hP1
                    obtain ⟨hP, hD⟩ := va_join (wr := []) (w1 := (wSg a cI cJ F B K x_8015.2 I T)) hP hD [0, 1, 2, 3, 4, 5, 6, 7, 8, 9, 10, 11, 12, 13, 14, 15, 16, 17] [] rfl rfl (by decide) (by decide) hk1 hFc hP1 hD1
                    generalize H1 = H at hP hS ⊢
                    have hP : va_P (dC, dI) vwCl (wSg a cI cJ F B K x_8015.2 I T) H := hP
                    have hD : va_D A (wSg a cI cJ F B K x_8015.2 I T) := hD
                    refine lv_aload_n hx hb dL_isWell_88 rfl (lv_at hl 3 rfl) ?_
                    refine lv_iconst (v := 2) hx hb dL_isWell_89 (by decide) ?_
                    obtain ⟨x_8016, hx_8016, hf⟩ := Option.bind_eq_some_iff.mp hf
                    refine q_rV (As := [.int 2]) (rest := [.int x_8015.1]) ⟨hx, hb, hml, hown, hts⟩ (c_X5_sign l dC dI cI cJ a F B K x_8015.2 I T 2 x_8016 hx_8016) (cwV 1 hts gM_isWell_X5_sign rfl rfl rfl (by decide +kernel) ⟨Nat.le_of_ble_eq_true rfl, Nat.le_of_ble_eq_true rfl⟩) hK hn hP (ci := 5) rfl rfl rfl hl.1 rfl (Nat.le_of_ble_eq_true rfl) dL_isWell_90 ⟨by show 0 ≤ 0; omega, by show 0 ≤ 0; omega⟩ ?_
                    refine lv_icmp_le (tgt := 98) hx hb dL_isWell_93 (by decide) (fun c_8017 => ?_) (fun c_8017 => ?_)
                    · replace hf := (if_pos c_8017).symm.trans hf
                      refine lv_iinc (v := i3_8 + 1) (lv' := [(3, .int (i3_8 + 1)), (4, .int x_8003.1), (2, .int x_1), (0, .ref (a 0)), (1, .int x1)]) hx hb dL_isWell_98 hl (k := 1) rfl rfl (by decide) rfl (fun ls hl => ?_)
                      refine lv_goto (tgt := 8) hx hb dL_isWell_101 (by decide) ?_
                      exact ih (i3_8 + 1) x_8015.2 H locs ls _ (lv_sub hl [0, 2, 3, 4] rfl) hP hD hS hf hret_8 hex_8
                    · replace hf := (if_neg c_8017).symm.trans hf
                      refine lv_iconst (v := 0) hx hb dL_isWell_96 (by decide) ?_
                      replace hf := hret_8 (0, x_8015.2) (Option.some.inj hf).symm
                      subst hf
                      have hP9 := hP
                      have hD9 := hD
                      exact W.zret (v := 0) (ty := .boolean) hx hb hr rfl (fun t ht hW => ⟨⟨0, (), rfl, rfl, ⟨by rw [ht]; exact hP9, va_K.moved hW.alike hK, hD9⟩⟩, hS.F ht⟩) hS.2.2 dL_isWell_97
                · replace hf := (if_neg c_8013).symm.trans hf
                  refine lv_iload hx hb dL_isWell_62 (lv_at hl 0 rfl) ?_
                  refine lv_if_lt (tgt := 78) hx hb dL_isWell_64 (by decide) (fun c_8018 => ?_) (fun c_8018 => ?_)
                  · replace hf := (if_pos c_8018).symm.trans hf
                    refine lv_iload_n hx hb dL_isWell_78 rfl (lv_at hl 2 rfl) ?_
                    refine lv_if_lt (tgt := 98) hx hb dL_isWell_79 (by decide) (fun c_8019 => ?_) (fun c_8019 => ?_)
                    · replace hf := (if_pos c_8019).symm.trans hf
                      refine lv_iinc (v := i3_8 + 1) (lv' := [(3, .int (i3_8 + 1)), (4, .int x_8003.1), (2, .int x_1), (0, .ref (a 0)), (1, .int x1)]) hx hb dL_isWell_98 hl (k := 1) rfl rfl (by decide) rfl (fun ls hl => ?_)
                      refine lv_goto (tgt := 8) hx hb dL_isWell_101 (by decide) ?_
                      exact ih (i3_8 + 1) x_8005.2 H locs ls _ (lv_sub hl [0, 2, 3, 4] rfl) hP hD hS hf hret_8 hex_8
                    · replace hf := (if_neg c_8019).symm.trans hf
                      refine lv_aload_n hx hb dL_isWell_82 rfl (lv_at hl 3 rfl) ?_
                      refine lv_iload_n hx hb dL_isWell_83 rfl (lv_at hl 2 rfl) ?_
                      refine lv_iconst (v := 4) hx hb dL_isWell_84 (by decide) ?_
                      obtain ⟨x_8020, hx_8020, hf⟩ := Option.bind_eq_some_iff.mp hf
                      have hFc := va_free (wc := (wSg a cI cJ F B K x_8005.2 I T)) hD hS hA [0, 1, 2, 3, 4, 5, 6, 7, 8, 9, 10, 11, 12, 13, 14, 15, 16, 17] rfl
                      refine va_calli (va_runV (As := [.int x_1, .int 4]) (rest := []) ⟨hx, hb, hml, hown, hts⟩ (c_X5_ofLine l dC dI cI cJ a H.size F B K x_8005.2 I T x_1 4 x_8020 hx_8020) (cwV 2 hts gM_isWell_X5_ofLine rfl rfl rfl (by decide +kernel) ⟨Nat.le_of_ble_eq_true rfl, Nat.le_of_ble_eq_true rfl⟩) ⟨q_Wblind, va_recv hK hP (ci := 5) (q0 := 0) rfl rfl, q_Wpre hP hK hn hD⟩ rfl rfl hl.1 rfl (lv_room (Nat.le_of_ble_eq_true rfl)) dL_isWell_85 ⟨by show 0 + 0 ≤ 0; omega, by show 0 + 0 ≤ 0; omega⟩) hS (fun q _ h => hFc q h) hFc (fun r_9 u t H1 locs ht hvm hw hB hz1 hk1 hS => ?_)
                      subst hw
                      obtain ⟨hP1, hK1, hD1⟩ := hB
                      rw [ht] at hP1
                      obtain ⟨hP, hD⟩ := va_join (wr := []) (w1 := (wSg a cI cJ F B K x_8020.2 I T)) hP hD [0, 1, 2, 3, 4, 5, 6, 7, 8, 9, 10, 11, 12, 13, 14, 15, 16, 17] [] rfl rfl (by decide) (by decide) hk1 hFc hP1 hD1
                      generalize H1 = H at hP hS ⊢
                      have hP : va_P (dC, dI) vwCl (wSg a cI cJ F B K x_8020.2 I T) H := hP
                      have hD : va_D A (wSg a cI cJ F B K x_8020.2 I T) := hD
                      refine lv_aload_n hx hb dL_isWell_88 rfl (lv_at hl 3 rfl) ?_
                      refine lv_iconst (v := 2) hx hb dL_isWell_89 (by decide) ?_
                      obtain ⟨x_8021, hx_8021, hf⟩ := Option.bind_eq_some_iff.mp hf
                      refine q_rV (As := [.int 2]) (rest := [.int x_8020.1]) ⟨hx, hb, hml, hown, hts⟩ (c_X5_sign l dC dI cI cJ a F B K x_8020.2 I T 2 x_8021 hx_8021) (cwV 1 hts gM_isWell_X5_sign rfl rfl rfl (by decide +kernel) ⟨Nat.le_of_ble_eq_true rfl, Nat.le_of_ble_eq_true rfl⟩) hK hn hP (ci := 5) rfl rfl rfl hl.1 rfl (Nat.le_of_ble_eq_true rfl) dL_isWell_90 ⟨by show 0 ≤ 0; omega, by show 0 ≤ 0; omega⟩ ?_
                      refine lv_icmp_le (tgt := 98) hx hb dL_isWell_93 (by decide) (fun c_8022 => ?_) (fun c_8022 => ?_)
                      · replace hf := (if_pos c_8022).symm.trans hf
                        refine lv_iinc (v := i3_8 + 1) (lv' := [(3, .int (i3_8 + 1)), (4, .int x_8003.1), (2, .int x_1), (0, .ref (a 0)), (1, .int x1)]) hx hb dL_isWell_98 hl (k := 1) rfl rfl (by decide) rfl (fun ls hl => ?_)
                        refine lv_goto (tgt := 8) hx hb dL_isWell_101 (by decide) ?_
                        exact ih (i3_8 + 1) x_8020.2 H locs ls _ (lv_sub hl [0, 2, 3, 4] rfl) hP hD hS hf hret_8 hex_8
                      · replace hf := (if_neg c_8022).symm.trans hf
                        refine lv_iconst (v := 0) hx hb dL_isWell_96 (by decide) ?_
                        replace hf := hret_8 (0, x_8020.2) (Option.some.inj hf).symm
                        subst hf
                        have hP9 := hP
                        have hD9 := hD
                        exact W.zret (v := 0) (ty := .boolean) hx hb hr rfl (fun t ht hW => ⟨⟨0, (), rfl, rfl, ⟨by rw [ht]; exact hP9, va_K.moved hW.alike hK, hD9⟩⟩, hS.F ht⟩) hS.2.2 dL_isWell_97
                  · replace hf := (if_neg c_8018).symm.trans hf
                    refine lv_iload hx hb dL_isWell_67 (lv_at hl 0 rfl) ?_
                    refine lv_aload_n hx hb dL_isWell_69 rfl (lv_at hl 3 rfl) ?_
                    refine lv_iload_n hx hb dL_isWell_70 rfl (lv_at hl 2 rfl) ?_
                    refine lv_iconst (v := 4) hx hb dL_isWell_71 (by decide) ?_
                    obtain ⟨x_8023, hx_8023, hf⟩ := Option.bind_eq_some_iff.mp hf
                    have hFc := va_free (wc := (wSg a cI cJ F B K x_8005.2 I T)) hD hS hA [0, 1, 2, 3, 4, 5, 6, 7, 8, 9, 10, 11, 12, 13, 14, 15, 16, 17] rfl
                    refine va_calli (va_runV (As := [.int x_1, .int 4]) (rest := [.int x_8003.1]) ⟨hx, hb, hml, hown, hts⟩ (c_X5_ofLine l dC dI cI cJ a H.size F B K x_8005.2 I T x_1 4 x_8023 hx_8023) (cwV 2 hts gM_isWell_X5_ofLine rfl rfl rfl (by decide +kernel) ⟨Nat.le_of_ble_eq_true rfl, Nat.le_of_ble_eq_true rfl⟩) ⟨q_Wblind, va_recv hK hP (ci := 5) (q0 := 0) rfl rfl, q_Wpre hP hK hn hD⟩ rfl rfl hl.1 rfl (lv_room (Nat.le_of_ble_eq_true rfl)) dL_isWell_72 ⟨by show 0 + 0 ≤ 0; omega, by show 0 + 0 ≤ 0; omega⟩) hS (fun q _ h => hFc q h) hFc (fun r_9 u t H1 locs ht hvm hw hB hz1 hk1 hS => ?_)
                    subst hw
                    obtain ⟨hP1, hK1, hD1⟩ := hB
                    rw [ht] at hP1
                    obtain ⟨hP, hD⟩ := va_join (wr := []) (w1 := (wSg a cI cJ F B K x_8023.2 I T)) hP hD [0, 1, 2, 3, 4, 5, 6, 7, 8, 9, 10, 11, 12, 13, 14, 15, 16, 17] [] rfl rfl (by decide) (by decide) hk1 hFc hP1 hD1
                    generalize H1 = H at hP hS ⊢
                    have hP : va_P (dC, dI) vwCl (wSg a cI cJ F B K x_8023.2 I T) H := hP
                    have hD : va_D A (wSg a cI cJ F B K x_8023.2 I T) := hD
                    refine lv_icmp_le (tgt := 96) hx hb dL_isWell_75 (by decide) (fun c_8024 => ?_) (fun c_8024 => ?_)
                    · replace hf := (if_pos c_8024).symm.trans hf
                      refine lv_iconst (v := 0) hx hb dL_isWell_96 (by decide) ?_
                      replace hf := hret_8 (0, x_8023.2) (Option.some.inj hf).symm
                      subst hf
                      have hP9 := hP
                      have hD9 := hD
                      exact W.zret (v := 0) (ty := .boolean) hx hb hr rfl (fun t ht hW => ⟨⟨0, (), rfl, rfl, ⟨by rw [ht]; exact hP9, va_K.moved hW.alike hK, hD9⟩⟩, hS.F ht⟩) hS.2.2 dL_isWell_97
                    · replace hf := (if_neg c_8024).symm.trans hf
                      refine lv_iload_n hx hb dL_isWell_78 rfl (lv_at hl 2 rfl) ?_
                      refine lv_if_lt (tgt := 98) hx hb dL_isWell_79 (by decide) (fun c_8025 => ?_) (fun c_8025 => ?_)
                      · replace hf := (if_pos c_8025).symm.trans hf
                        refine lv_iinc (v := i3_8 + 1) (lv' := [(3, .int (i3_8 + 1)), (4, .int x_8003.1), (2, .int x_1), (0, .ref (a 0)), (1, .int x1)]) hx hb dL_isWell_98 hl (k := 1) rfl rfl (by decide) rfl (fun ls hl => ?_)
                        refine lv_goto (tgt := 8) hx hb dL_isWell_101 (by decide) ?_
                        exact ih (i3_8 + 1) x_8023.2 H locs ls _ (lv_sub hl [0, 2, 3, 4] rfl) hP hD hS hf hret_8 hex_8
                      · replace hf := (if_neg c_8025).symm.trans hf
                        refine lv_aload_n hx hb dL_isWell_82 rfl (lv_at hl 3 rfl) ?_
                        refine lv_iload_n hx hb dL_isWell_83 rfl (lv_at hl 2 rfl) ?_
                        refine lv_iconst (v := 4) hx hb dL_isWell_84 (by decide) ?_
                        obtain ⟨x_8026, hx_8026, hf⟩ := Option.bind_eq_some_iff.mp hf
                        have hFc := va_free (wc := (wSg a cI cJ F B K x_8023.2 I T)) hD hS hA [0, 1, 2, 3, 4, 5, 6, 7, 8, 9, 10, 11, 12, 13, 14, 15, 16, 17] rfl
                        refine va_calli (va_runV (As := [.int x_1, .int 4]) (rest := []) ⟨hx, hb, hml, hown, hts⟩ (c_X5_ofLine l dC dI cI cJ a H.size F B K x_8023.2 I T x_1 4 x_8026 hx_8026) (cwV 2 hts gM_isWell_X5_ofLine rfl rfl rfl (by decide +kernel) ⟨Nat.le_of_ble_eq_true rfl, Nat.le_of_ble_eq_true rfl⟩) ⟨q_Wblind, va_recv hK hP (ci := 5) (q0 := 0) rfl rfl, q_Wpre hP hK hn hD⟩ rfl rfl hl.1 rfl (lv_room (Nat.le_of_ble_eq_true rfl)) dL_isWell_85 ⟨by show 0 + 0 ≤ 0; omega, by show 0 + 0 ≤ 0; omega⟩) hS (fun q _ h => hFc q h) hFc (fun r_9 u t H1 locs ht hvm hw hB hz1 hk1 hS => ?_)
                        subst hw
                        obtain ⟨hP1, hK1, hD1⟩ := hB
                        rw [ht] at hP1
                        obtain ⟨hP, hD⟩ := va_join (wr := []) (w1 := (wSg a cI cJ F B K x_8026.2 I T)) hP hD [0, 1, 2, 3, 4, 5, 6, 7, 8, 9, 10, 11, 12, 13, 14, 15, 16, 17] [] rfl rfl (by decide) (by decide) hk1 hFc hP1 hD1
                        generalize H1 = H at hP hS ⊢
                        have hP : va_P (dC, dI) vwCl (wSg a cI cJ F B K x_8026.2 I T) H := hP
                        have hD : va_D A (wSg a cI cJ F B K x_8026.2 I T) := hD
                        refine lv_aload_n hx hb dL_isWell_88 rfl (lv_at hl 3 rfl) ?_
                        refine lv_iconst (v := 2) hx hb dL_isWell_89 (by decide) ?_
                        obtain ⟨x_8027, hx_8027, hf⟩ := Option.bind_eq_some_iff.mp hf
                        refine q_rV (As := [.int 2]) (rest := [.int x_8026.1]) ⟨hx, hb, hml, hown, hts⟩ (c_X5_sign l dC dI cI cJ a F B K x_8026.2 I T 2 x_8027 hx_8027) (cwV 1 hts gM_isWell_X5_sign rfl rfl rfl (by decide +kernel) ⟨Nat.le_of_ble_eq_true rfl, Nat.le_of_ble_eq_true rfl⟩) hK hn hP (ci := 5) rfl rfl rfl hl.1 rfl (Nat.le_of_ble_eq_true rfl) dL_isWell_90 ⟨by show 0 ≤ 0; omega, by show 0 ≤ 0; omega⟩ ?_
                        refine lv_icmp_le (tgt := 98) hx hb dL_isWell_93 (by decide) (fun c_8028 => ?_) (fun c_8028 => ?_)
                        · replace hf := (if_pos c_8028).symm.trans hf
                          refine lv_iinc (v := i3_8 + 1) (lv' := [(3, .int (i3_8 + 1)), (4, .int x_8003.1), (2, .int x_1), (0, .ref (a 0)), (1, .int x1)]) hx hb dL_isWell_98 hl (k := 1) rfl rfl (by decide) rfl (fun ls hl => ?_)
                          refine lv_goto (tgt := 8) hx hb dL_isWell_101 (by decide) ?_
                          exact ih (i3_8 + 1) x_8026.2 H locs ls _ (lv_sub hl [0, 2, 3, 4] rfl) hP hD hS hf hret_8 hex_8
                        · replace hf := (if_neg c_8028).symm.trans hf
                          refine lv_iconst (v := 0) hx hb dL_isWell_96 (by decide) ?_
                          replace hf := hret_8 (0, x_8026.2) (Option.some.inj hf).symm
                          subst hf
                          have hP9 := hP
                          have hD9 := hD
                          exact W.zret (v := 0) (ty := .boolean) hx hb hr rfl (fun t ht hW => ⟨⟨0, (), rfl, rfl, ⟨by rw [ht]; exact hP9, va_K.moved hW.alike hK, hD9⟩⟩, hS.F ht⟩) hS.2.2 dL_isWell_97
          · replace hf := (if_pos c_8006).symm.trans hf
            refine lv_iconst (v := 1) hx hb dL_isWell_45 (by decide) ?_
            refine lv_goto (tgt := 50) hx hb dL_isWell_46 (by decide) ?_
            refine lv_icmp_ne (tgt := 96) hx hb dL_isWell_50 (by decide) (fun c_8029 => ?_) (fun c_8029 => ?_)
            · replace hf := (if_neg c_8029).symm.trans hf
              refine lv_iconst (v := 0) hx hb dL_isWell_96 (by decide) ?_
              replace hf := hret_8 (0, x_8005.2) (Option.some.inj hf).symm
              subst hf
              have hP9 := hP
              have hD9 := hD
              exact W.zret (v := 0) (ty := .boolean) hx hb hr rfl (fun t ht hW => ⟨⟨0, (), rfl, rfl, ⟨by rw [ht]; exact hP9, va_K.moved hW.alike hK, hD9⟩⟩, hS.F ht⟩) hS.2.2 dL_isWell_97
            · replace hf := (if_pos c_8029).symm.trans hf
              refine lv_iload_n hx hb dL_isWell_53 rfl (lv_at hl 2 rfl) ?_
              refine lv_if_lt (tgt := 78) hx hb dL_isWell_54 (by decide) (fun c_8030 => ?_) (fun c_8030 => ?_)
              · replace hf := (if_pos c_8030).symm.trans hf
                refine lv_iload_n hx hb dL_isWell_78 rfl (lv_at hl 2 rfl) ?_
                refine lv_if_lt (tgt := 98) hx hb dL_isWell_79 (by decide) (fun c_8031 => ?_) (fun c_8031 => ?_)
                · replace hf := (if_pos c_8031).symm.trans hf
                  refine lv_iinc (v := i3_8 + 1) (lv' := [(3, .int (i3_8 + 1)), (4, .int x_8003.1), (2, .int x_1), (0, .ref (a 0)), (1, .int x1)]) hx hb dL_isWell_98 hl (k := 1) rfl rfl (by decide) rfl (fun ls hl => ?_)
                  refine lv_goto (tgt := 8) hx hb dL_isWell_101 (by decide) ?_
                  exact ih (i3_8 + 1) x_8005.2 H locs ls _ (lv_sub hl [0, 2, 3, 4] rfl) hP hD hS hf hret_8 hex_8
                · replace hf := (if_neg c_8031).symm.trans hf
                  refine lv_aload_n hx hb dL_isWell_82 rfl (lv_at hl 3 rfl) ?_
                  refine lv_iload_n hx hb dL_isWell_83 rfl (lv_at hl 2 rfl) ?_
                  refine lv_iconst (v := 4) hx hb dL_isWell_84 (by decide) ?_
                  obtain ⟨x_8032, hx_8032, hf⟩ := Option.bind_eq_some_iff.mp hf
                  have hFc := va_free (wc := (wSg a cI cJ F B K x_8005.2 I T)) hD hS hA [0, 1, 2, 3, 4, 5, 6, 7, 8, 9, 10, 11, 12, 13, 14, 15, 16, 17] rfl
                  refine va_calli (va_runV (As := [.int x_1, .int 4]) (rest := []) ⟨hx, hb, hml, hown, hts⟩ (c_X5_ofLine l dC dI cI cJ a H.size F B K x_8005.2 I T x_1 4 x_8032 hx_8032) (cwV 2 hts gM_isWell_X5_ofLine rfl rfl rfl (by decide +kernel) ⟨Nat.le_of_ble_eq_true rfl, Nat.le_of_ble_eq_true rfl⟩) ⟨q_Wblind, va_recv hK hP (ci := 5) (q0 := 0) rfl rfl, q_Wpre hP hK hn hD⟩ rfl rfl hl.1 rfl (lv_room (Nat.le_of_ble_eq_true rfl)) dL_isWell_85 ⟨by show 0 + 0 ≤ 0; omega, by show 0 + 0 ≤ 0; omega⟩) hS (fun q _ h => hFc q h) hFc (fun r_9 u t H1 locs ht hvm hw hB hz1 hk1 hS => ?_)
                  subst hw
                  obtain ⟨hP1, hK1, hD1⟩ := hB
                  rw [ht] at hP1
                  obtain ⟨hP, hD⟩ := va_join (wr := []) (w1 := (wSg a cI cJ F B K x_8032.2 I T)) hP hD [0, 1, 2, 3, 4, 5, 6, 7, 8, 9, 10, 11, 12, 13, 14, 15, 16, 17] [] rfl rfl (by decide) (by decide) hk1 hFc hP1 hD1
                  generalize H1 = H at hP hS ⊢
                  have hP : va_P (dC, dI) vwCl (wSg a cI cJ F B K x_8032.2 I T) H := hP
                  have hD : va_D A (wSg a cI cJ F B K x_8032.2 I T) := hD
                  refine lv_aload_n hx hb dL_isWell_88 rfl (lv_at hl 3 rfl) ?_
                  refine lv_iconst (v := 2) hx hb dL_isWell_89 (by decide) ?_
                  obtain ⟨x_8033, hx_8033, hf⟩ := Option.bind_eq_some_iff.mp hf
                  refine q_rV (As := [.int 2]) (rest := [.int x_8032.1]) ⟨hx, hb, hml, hown, hts⟩ (c_X5_sign l dC dI cI cJ a F B K x_8032.2 I T 2 x_8033 hx_8033) (cwV 1 hts gM_isWell_X5_sign rfl rfl rfl (by decide +kernel) ⟨Nat.le_of_ble_eq_true rfl, Nat.le_of_ble_eq_true rfl⟩) hK hn hP (ci := 5) rfl rfl rfl hl.1 rfl (Nat.le_of_ble_eq_true rfl) dL_isWell_90 ⟨by show 0 ≤ 0; omega, by show 0 ≤ 0; omega⟩ ?_
                  refine lv_icmp_le (tgt := 98) hx hb dL_isWell_93 (by decide) (fun c_8034 => ?_) (fun c_8034 => ?_)
                  · replace hf := (if_pos c_8034).symm.trans hf
                    refine lv_iinc (v := i3_8 + 1) (lv' := [(3, .int (i3_8 + 1)), (4, .int x_8003.1), (2, .int x_1), (0, .ref (a 0)), (1, .int x1)]) hx hb dL_isWell_98 hl (k := 1) rfl rfl (by decide) rfl (fun ls hl => ?_)
                    refine lv_goto (tgt := 8) hx hb dL_isWell_101 (by decide) ?_
                    exact ih (i3_8 + 1) x_8032.2 H locs ls _ (lv_sub hl [0, 2, 3, 4] rfl) hP hD hS hf hret_8 hex_8
                  · replace hf := (if_neg c_8034).symm.trans hf
                    refine lv_iconst (v := 0) hx hb dL_isWell_96 (by decide) ?_
                    replace hf := hret_8 (0, x_8032.2) (Option.some.inj hf).symm
                    subst hf
                    have hP9 := hP
                    have hD9 := hD
                    exact W.zret (v := 0) (ty := .boolean) hx hb hr rfl (fun t ht hW => ⟨⟨0, (), rfl, rfl, ⟨by rw [ht]; exact hP9, va_K.moved hW.alike hK, hD9⟩⟩, hS.F ht⟩) hS.2.2 dL_isWell_97
              · replace hf := (if_neg c_8030).symm.trans hf
                refine lv_iload_n hx hb dL_isWell_57 rfl (lv_at hl 1 rfl) ?_
                refine lv_iload_n hx hb dL_isWell_58 rfl (lv_at hl 2 rfl) ?_
                refine lv_icmp_eq (tgt := 78) hx hb dL_isWell_59 (by decide) (fun c_8035 => ?_) (fun c_8035 => ?_)
                · replace hf := (if_pos c_8035).symm.trans hf
                  refine lv_iload_n hx hb dL_isWell_78 rfl (lv_at hl 2 rfl) ?_
                  refine lv_if_lt (tgt := 98) hx hb dL_isWell_79 (by decide) (fun c_8036 => ?_) (fun c_8036 => ?_)
                  · replace hf := (if_pos c_8036).symm.trans hf
                    refine lv_iinc (v := i3_8 + 1) (lv' := [(3, .int (i3_8 + 1)), (4, .int x_8003.1), (2, .int x_1), (0, .ref (a 0)), (1, .int x1)]) hx hb dL_isWell_98 hl (k := 1) rfl rfl (by decide) rfl (fun ls hl => ?_)
                    refine lv_goto (tgt := 8) hx hb dL_isWell_101 (by decide) ?_
                    exact ih (i3_8 + 1) x_8005.2 H locs ls _ (lv_sub hl [0, 2, 3, 4] rfl) hP hD hS hf hret_8 hex_8
                  · replace hf := (if_neg c_8036).symm.trans hf
                    refine lv_aload_n hx hb dL_isWell_82 rfl (lv_at hl 3 rfl) ?_
                    refine lv_iload_n hx hb dL_isWell_83 rfl (lv_at hl 2 rfl) ?_
                    refine lv_iconst (v := 4) hx hb dL_isWell_84 (by decide) ?_
                    obtain ⟨x_8037, hx_8037, hf⟩ := Option.bind_eq_some_iff.mp hf
                    have hFc := va_free (wc := (wSg a cI cJ F B K x_8005.2 I T)) hD hS hA [0, 1, 2, 3, 4, 5, 6, 7, 8, 9, 10, 11, 12, 13, 14, 15, 16, 17] rfl
                    refine va_calli (va_runV (As := [.int x_1, .int 4]) (rest := []) ⟨hx, hb, hml, hown, hts⟩ (c_X5_ofLine l dC dI cI cJ a H.size F B K x_8005.2 I T x_1 4 x_8037 hx_8037) (cwV 2 hts gM_isWell_X5_ofLine rfl rfl rfl (by decide +kernel) ⟨Nat.le_of_ble_eq_true rfl, Nat.le_of_ble_eq_true rfl⟩) ⟨q_Wblind, va_recv hK hP (ci := 5) (q0 := 0) rfl rfl, q_Wpre hP hK hn hD⟩ rfl rfl hl.1 rfl (lv_room (Nat.le_of_ble_eq_true rfl)) dL_isWell_85 ⟨by show 0 + 0 ≤ 0; omega, by show 0 + 0 ≤ 0; omega⟩) hS (fun q _ h => hFc q h) hFc (fun r_9 u t H1 locs ht hvm hw hB hz1 hk1 hS => ?_)
                    subst hw
                    obtain ⟨hP1, hK1, hD1⟩ := hB
                    rw [ht] at hP1
                    obtain ⟨hP, hD⟩ := va_join (wr := []) (w1 := (wSg a cI cJ F B K x_8037.2 I T)) hP hD [0, 1, 2, 3, 4, 5, 6, 7, 8, 9, 10, 11, 12, 13, 14, 15, 16, 17] [] rfl rfl (by decide) (by decide) hk1 hFc hP1 hD1
                    generalize H1 = H at hP hS ⊢
                    have hP : va_P (dC, dI) vwCl (wSg a cI cJ F B K x_8037.2 I T) H := hP
                    have hD : va_D A (wSg a cI cJ F B K x_8037.2 I T) := hD
                    refine lv_aload_n hx hb dL_isWell_88 rfl (lv_at hl 3 rfl) ?_
                    refine lv_iconst (v := 2) hx hb dL_isWell_89 (by decide) ?_
                    obtain ⟨x_8038, hx_8038, hf⟩ := Option.bind_eq_some_iff.mp hf
                    refine q_rV (As := [.int 2]) (rest := [.int x_8037.1]) ⟨hx, hb, hml, hown, hts⟩ (c_X5_sign l dC dI cI cJ a F B K x_8037.2 I T 2 x_8038 hx_8038) (cwV 1 hts gM_isWell_X5_sign rfl rfl rfl (by decide +kernel) ⟨Nat.le_of_ble_eq_true rfl, Nat.le_of_ble_eq_true rfl⟩) hK hn hP (ci := 5) rfl rfl rfl hl.1 rfl (Nat.le_of_ble_eq_true rfl) dL_isWell_90 ⟨by show 0 ≤ 0; omega, by show 0 ≤ 0; omega⟩ ?_
                    refine lv_icmp_le (tgt := 98) hx hb dL_isWell_93 (by decide) (fun c_8039 => ?_) (fun c_8039 => ?_)
                    · replace hf := (if_pos c_8039).symm.trans hf
                      refine lv_iinc (v := i3_8 + 1) (lv' := [(3, .int (i3_8 + 1)), (4, .int x_8003.1), (2, .int x_1), (0, .ref (a 0)), (1, .int x1)]) hx hb dL_isWell_98 hl (k := 1) rfl rfl (by decide) rfl (fun ls hl => ?_)
                      refine lv_goto (tgt := 8) hx hb dL_isWell_101 (by decide) ?_
                      exact ih (i3_8 + 1) x_8037.2 H locs ls _ (lv_sub hl [0, 2, 3, 4] rfl) hP hD hS hf hret_8 hex_8
                    · replace hf := (if_neg c_8039).symm.trans hf
                      refine lv_iconst (v := 0) hx hb dL_isWell_96 (by decide) ?_
                      replace hf := hret_8 (0, x_8037.2) (Option.some.inj hf).symm
                      subst hf
                      have hP9 := hP
                      have hD9 := hD
                      exact W.zret (v := 0) (ty := .boolean) hx hb hr rfl (fun t ht hW => ⟨⟨0, (), rfl, rfl, ⟨by rw [ht]; exact hP9, va_K.moved hW.alike hK, hD9⟩⟩, hS.F ht⟩) hS.2.2 dL_isWell_97
                · replace hf := (if_neg c_8035).symm.trans hf
                  refine lv_iload hx hb dL_isWell_62 (lv_at hl 0 rfl) ?_
                  refine lv_if_lt (tgt := 78) hx hb dL_isWell_64 (by decide) (fun c_8040 => ?_) (fun c_8040 => ?_)
                  · replace hf := (if_pos c_8040).symm.trans hf
                    refine lv_iload_n hx hb dL_isWell_78 rfl (lv_at hl 2 rfl) ?_
                    refine lv_if_lt (tgt := 98) hx hb dL_isWell_79 (by decide) (fun c_8041 => ?_) (fun c_8041 => ?_)
                    · replace hf := (if_pos c_8041).symm.trans hf
                      refine lv_iinc (v := i3_8 + 1) (lv' := [(3, .int (i3_8 + 1)), (4, .int x_8003.1), (2, .int x_1), (0, .ref (a 0)), (1, .int x1)]) hx hb dL_isWell_98 hl (k := 1) rfl rfl (by decide) rfl (fun ls hl => ?_)
                      refine lv_goto (tgt := 8) hx hb dL_isWell_101 (by decide) ?_
                      exact ih (i3_8 + 1) x_8005.2 H locs ls _ (lv_sub hl [0, 2, 3, 4] rfl) hP hD hS hf hret_8 hex_8
                    · replace hf := (if_neg c_8041).symm.trans hf
                      refine lv_aload_n hx hb dL_isWell_82 rfl (lv_at hl 3 rfl) ?_
                      refine lv_iload_n hx hb dL_isWell_83 rfl (lv_at hl 2 rfl) ?_
                      refine lv_iconst (v := 4) hx hb dL_isWell_84 (by decide) ?_
                      obtain ⟨x_8042, hx_8042, hf⟩ := Option.bind_eq_some_iff.mp hf
                      have hFc := va_free (wc := (wSg a cI cJ F B K x_8005.2 I T)) hD hS hA [0, 1, 2, 3, 4, 5, 6, 7, 8, 9, 10, 11, 12, 13, 14, 15, 16, 17] rfl
                      refine va_calli (va_runV (As := [.int x_1, .int 4]) (rest := []) ⟨hx, hb, hml, hown, hts⟩ (c_X5_ofLine l dC dI cI cJ a H.size F B K x_8005.2 I T x_1 4 x_8042 hx_8042) (cwV 2 hts gM_isWell_X5_ofLine rfl rfl rfl (by decide +kernel) ⟨Nat.le_of_ble_eq_true rfl, Nat.le_of_ble_eq_true rfl⟩) ⟨q_Wblind, va_recv hK hP (ci := 5) (q0 := 0) rfl rfl, q_Wpre hP hK hn hD⟩ rfl rfl hl.1 rfl (lv_room (Nat.le_of_ble_eq_true rfl)) dL_isWell_85 ⟨by show 0 + 0 ≤ 0; omega, by show 0 + 0 ≤ 0; omega⟩) hS (fun q _ h => hFc q h) hFc (fun r_9 u t H1 locs ht hvm hw hB hz1 hk1 hS => ?_)
                      subst hw
                      obtain ⟨hP1, hK1, hD1⟩ := hB
                      rw [ht] at hP1
                      obtain ⟨hP, hD⟩ := va_join (wr := []) (w1 := (wSg a cI cJ F B K x_8042.2 I T)) hP hD [0, 1, 2, 3, 4, 5, 6, 7, 8, 9, 10, 11, 12, 13, 14, 15, 16, 17] [] rfl rfl (by decide) (by decide) hk1 hFc hP1 hD1
                      generalize H1 = H at hP hS ⊢
                      have hP : va_P (dC, dI) vwCl (wSg a cI cJ F B K x_8042.2 I T) H := hP
                      have hD : va_D A (wSg a cI cJ F B K x_8042.2 I T) := hD
                      refine lv_aload_n hx hb dL_isWell_88 rfl (lv_at hl 3 rfl) ?_
                      refine lv_iconst (v := 2) hx hb dL_isWell_89 (by decide) ?_
                      obtain ⟨x_8043, hx_8043, hf⟩ := Option.bind_eq_some_iff.mp hf
                      refine q_rV (As := [.int 2]) (rest := [.int x_8042.1]) ⟨hx, hb, hml, hown, hts⟩ (c_X5_sign l dC dI cI cJ a F B K x_8042.2 I T 2 x_8043 hx_8043) (cwV 1 hts gM_isWell_X5_sign rfl rfl rfl (by decide +kernel) ⟨Nat.le_of_ble_eq_true rfl, Nat.le_of_ble_eq_true rfl⟩) hK hn hP (ci := 5) rfl rfl rfl hl.1 rfl (Nat.le_of_ble_eq_true rfl) dL_isWell_90 ⟨by show 0 ≤ 0; omega, by show 0 ≤ 0; omega⟩ ?_
                      refine lv_icmp_le (tgt := 98) hx hb dL_isWell_93 (by decide) (fun c_8044 => ?_) (fun c_8044 => ?_)
                      · replace hf := (if_pos c_8044).symm.trans hf
                        refine lv_iinc (v := i3_8 + 1) (lv' := [(3, .int (i3_8 + 1)), (4, .int x_8003.1), (2, .int x_1), (0, .ref (a 0)), (1, .int x1)]) hx hb dL_isWell_98 hl (k := 1) rfl rfl (by decide) rfl (fun ls hl => ?_)
                        refine lv_goto (tgt := 8) hx hb dL_isWell_101 (by decide) ?_
                        exact ih (i3_8 + 1) x_8042.2 H locs ls _ (lv_sub hl [0, 2, 3, 4] rfl) hP hD hS hf hret_8 hex_8
                      · replace hf := (if_neg c_8044).symm.trans hf
                        refine lv_iconst (v := 0) hx hb dL_isWell_96 (by decide) ?_
                        replace hf := hret_8 (0, x_8042.2) (Option.some.inj hf).symm
                        subst hf
                        have hP9 := hP
                        have hD9 := hD
                        exact W.zret (v := 0) (ty := .boolean) hx hb hr rfl (fun t ht hW => ⟨⟨0, (), rfl, rfl, ⟨by rw [ht]; exact hP9, va_K.moved hW.alike hK, hD9⟩⟩, hS.F ht⟩) hS.2.2 dL_isWell_97
                  · replace hf := (if_neg c_8040).symm.trans hf
                    refine lv_iload hx hb dL_isWell_67 (lv_at hl 0 rfl) ?_
                    refine lv_aload_n hx hb dL_isWell_69 rfl (lv_at hl 3 rfl) ?_
                    refine lv_iload_n hx hb dL_isWell_70 rfl (lv_at hl 2 rfl) ?_
                    refine lv_iconst (v := 4) hx hb dL_isWell_71 (by decide) ?_
                    obtain ⟨x_8045, hx_8045, hf⟩ := Option.bind_eq_some_iff.mp hf
                    have hFc := va_free (wc := (wSg a cI cJ F B K x_8005.2 I T)) hD hS hA [0, 1, 2, 3, 4, 5, 6, 7, 8, 9, 10, 11, 12, 13, 14, 15, 16, 17] rfl
                    refine va_calli (va_runV (As := [.int x_1, .int 4]) (rest := [.int x_8003.1]) ⟨hx, hb, hml, hown, hts⟩ (c_X5_ofLine l dC dI cI cJ a H.size F B K x_8005.2 I T x_1 4 x_8045 hx_8045) (cwV 2 hts gM_isWell_X5_ofLine rfl rfl rfl (by decide +kernel) ⟨Nat.le_of_ble_eq_true rfl, Nat.le_of_ble_eq_true rfl⟩) ⟨q_Wblind, va_recv hK hP (ci := 5) (q0 := 0) rfl rfl, q_Wpre hP hK hn hD⟩ rfl rfl hl.1 rfl (lv_room (Nat.le_of_ble_eq_true rfl)) dL_isWell_72 ⟨by show 0 + 0 ≤ 0; omega, by show 0 + 0 ≤ 0; omega⟩) hS (fun q _ h => hFc q h) hFc (fun r_9 u t H1 locs ht hvm hw hB hz1 hk1 hS => ?_)
                    subst hw
                    obtain ⟨hP1, hK1, hD1⟩ := hB
                    rw [ht] at hP1
                    obtain ⟨hP, hD⟩ := va_join (wr := []) (w1 := (wSg a cI cJ F B K x_8045.2 I T)) hP hD [0, 1, 2, 3, 4, 5, 6, 7, 8, 9, 10, 11, 12, 13, 14, 15, 16, 17] [] rfl rfl (by decide) (by decide) hk1 hFc hP1 hD1
                    generalize H1 = H at hP hS ⊢
                    have hP : va_P (dC, dI) vwCl (wSg a cI cJ F B K x_8045.2 I T) H := hP
                    have hD : va_D A (wSg a cI cJ F B K x_8045.2 I T) := hD
                    refine lv_icmp_le (tgt := 96) hx hb dL_isWell_75 (by decide) (fun c_8046 => ?_) (fun c_8046 => ?_)
                    · replace hf := (if_pos c_8046).symm.trans hf
                      refine lv_iconst (v := 0) hx hb dL_isWell_96 (by decide) ?_
                      replace hf := hret_8 (0, x_8045.2) (Option.some.inj hf).symm
                      subst hf
                      have hP9 := hP
                      have hD9 := hD
                      exact W.zret (v := 0) (ty := .boolean) hx hb hr rfl (fun t ht hW => ⟨⟨0, (), rfl, rfl, ⟨by rw [ht]; exact hP9, va_K.moved hW.alike hK, hD9⟩⟩, hS.F ht⟩) hS.2.2 dL_isWell_97
                    · replace hf := (if_neg c_8046).symm.trans hf
                      refine lv_iload_n hx hb dL_isWell_78 rfl (lv_at hl 2 rfl) ?_
                      refine lv_if_lt (tgt := 98) hx hb dL_isWell_79 (by decide) (fun c_8047 => ?_) (fun c_8047 => ?_)
                      · replace hf := (if_pos c_8047).symm.trans hf
                        refine lv_iinc (v := i3_8 + 1) (lv' := [(3, .int (i3_8 + 1)), (4, .int x_8003.1), (2, .int x_1), (0, .ref (a 0)), (1, .int x1)]) hx hb dL_isWell_98 hl (k := 1) rfl rfl (by decide) rfl (fun ls hl => ?_)
                        refine lv_goto (tgt := 8) hx hb dL_isWell_101 (by decide) ?_
                        exact ih (i3_8 + 1) x_8045.2 H locs ls _ (lv_sub hl [0, 2, 3, 4] rfl) hP hD hS hf hret_8 hex_8
                      · replace hf := (if_neg c_8047).symm.trans hf
                        refine lv_aload_n hx hb dL_isWell_82 rfl (lv_at hl 3 rfl) ?_
                        refine lv_iload_n hx hb dL_isWell_83 rfl (lv_at hl 2 rfl) ?_
                        refine lv_iconst (v := 4) hx hb dL_isWell_84 (by decide) ?_
                        obtain ⟨x_8048, hx_8048, hf⟩ := Option.bind_eq_some_iff.mp hf
                        have hFc := va_free (wc := (wSg a cI cJ F B K x_8045.2 I T)) hD hS hA [0, 1, 2, 3, 4, 5, 6, 7, 8, 9, 10, 11, 12, 13, 14, 15, 16, 17] rfl
                        refine va_calli (va_runV (As := [.int x_1, .int 4]) (rest := []) ⟨hx, hb, hml, hown, hts⟩ (c_X5_ofLine l dC dI cI cJ a H.size F B K x_8045.2 I T x_1 4 x_8048 hx_8048) (cwV 2 hts gM_isWell_X5_ofLine rfl rfl rfl (by decide +kernel) ⟨Nat.le_of_ble_eq_true rfl, Nat.le_of_ble_eq_true rfl⟩) ⟨q_Wblind, va_recv hK hP (ci := 5) (q0 := 0) rfl rfl, q_Wpre hP hK hn hD⟩ rfl rfl hl.1 rfl (lv_room (Nat.le_of_ble_eq_true rfl)) dL_isWell_85 ⟨by show 0 + 0 ≤ 0; omega, by show 0 + 0 ≤ 0; omega⟩) hS (fun q _ h => hFc q h) hFc (fun r_9 u t H1 locs ht hvm hw hB hz1 hk1 hS => ?_)
                        subst hw
                        obtain ⟨hP1, hK1, hD1⟩ := hB
                        rw [ht] at hP1
                        obtain ⟨hP, hD⟩ := va_join (wr := []) (w1 := (wSg a cI cJ F B K x_8048.2 I T)) hP hD [0, 1, 2, 3, 4, 5, 6, 7, 8, 9, 10, 11, 12, 13, 14, 15, 16, 17] [] rfl rfl (by decide) (by decide) hk1 hFc hP1 hD1
                        generalize H1 = H at hP hS ⊢
                        have hP : va_P (dC, dI) vwCl (wSg a cI cJ F B K x_8048.2 I T) H := hP
                        have hD : va_D A (wSg a cI cJ F B K x_8048.2 I T) := hD
                        refine lv_aload_n hx hb dL_isWell_88 rfl (lv_at hl 3 rfl) ?_
                        refine lv_iconst (v := 2) hx hb dL_isWell_89 (by decide) ?_
                        obtain ⟨x_8049, hx_8049, hf⟩ := Option.bind_eq_some_iff.mp hf
                        refine q_rV (As := [.int 2]) (rest := [.int x_8048.1]) ⟨hx, hb, hml, hown, hts⟩ (c_X5_sign l dC dI cI cJ a F B K x_8048.2 I T 2 x_8049 hx_8049) (cwV 1 hts gM_isWell_X5_sign rfl rfl rfl (by decide +kernel) ⟨Nat.le_of_ble_eq_true rfl, Nat.le_of_ble_eq_true rfl⟩) hK hn hP (ci := 5) rfl rfl rfl hl.1 rfl (Nat.le_of_ble_eq_true rfl) dL_isWell_90 ⟨by show 0 ≤ 0; omega, by show 0 ≤ 0; omega⟩ ?_
                        refine lv_icmp_le (tgt := 98) hx hb dL_isWell_93 (by decide) (fun c_8050 => ?_) (fun c_8050 => ?_)
                        · replace hf := (if_pos c_8050).symm.trans hf
                          refine lv_iinc (v := i3_8 + 1) (lv' := [(3, .int (i3_8 + 1)), (4, .int x_8003.1), (2, .int x_1), (0, .ref (a 0)), (1, .int x1)]) hx hb dL_isWell_98 hl (k := 1) rfl rfl (by decide) rfl (fun ls hl => ?_)
                          refine lv_goto (tgt := 8) hx hb dL_isWell_101 (by decide) ?_
                          exact ih (i3_8 + 1) x_8048.2 H locs ls _ (lv_sub hl [0, 2, 3, 4] rfl) hP hD hS hf hret_8 hex_8
                        · replace hf := (if_neg c_8050).symm.trans hf
                          refine lv_iconst (v := 0) hx hb dL_isWell_96 (by decide) ?_
                          replace hf := hret_8 (0, x_8048.2) (Option.some.inj hf).symm
                          subst hf
                          have hP9 := hP
                          have hD9 := hD
                          exact W.zret (v := 0) (ty := .boolean) hx hb hr rfl (fun t ht hW => ⟨⟨0, (), rfl, rfl, ⟨by rw [ht]; exact hP9, va_K.moved hW.alike hK, hD9⟩⟩, hS.F ht⟩) hS.2.2 dL_isWell_97
        · replace hf := (if_pos c_8004).symm.trans hf
          refine lv_iconst (v := 1) hx hb dL_isWell_30 (by decide) ?_
          refine lv_goto (tgt := 35) hx hb dL_isWell_31 (by decide) ?_
          refine lv_aload_n hx hb dL_isWell_35 rfl (lv_at hl 3 rfl) ?_
          refine lv_iload_n hx hb dL_isWell_36 rfl (lv_at hl 1 rfl) ?_
          refine lv_iconst (v := 5) hx hb dL_isWell_37 (by decide) ?_
          obtain ⟨x_8051, hx_8051, hf⟩ := Option.bind_eq_some_iff.mp hf
          have hFc := va_free (wc := (wSg a cI cJ F B K x_8003.2 I T)) hD hS hA [0, 1, 2, 3, 4, 5, 6, 7, 8, 9, 10, 11, 12, 13, 14, 15, 16, 17] rfl
          refine va_calli (va_runV (As := [.int i3_8, .int 5]) (rest := [.int 1]) ⟨hx, hb, hml, hown, hts⟩ (c_X5_ofLine l dC dI cI cJ a H.size F B K x_8003.2 I T i3_8 5 x_8051 hx_8051) (cwV 2 hts gM_isWell_X5_ofLine rfl rfl rfl (by decide +kernel) ⟨Nat.le_of_ble_eq_true rfl, Nat.le_of_ble_eq_true rfl⟩) ⟨q_Wblind, va_recv hK hP (ci := 5) (q0 := 0) rfl rfl, q_Wpre hP hK hn hD⟩ rfl rfl hl.1 rfl (lv_room (Nat.le_of_ble_eq_true rfl)) dL_isWell_38 ⟨by show 0 + 0 ≤ 0; omega, by show 0 + 0 ≤ 0; omega⟩) hS (fun q _ h => hFc q h) hFc (fun r_9 u t H1 locs ht hvm hw hB hz1 hk1 hS => ?_)
          subst hw
          obtain ⟨hP1, hK1, hD1⟩ := hB
          rw [ht] at hP1
          obtain ⟨hP, hD⟩ := va_join (wr := []) (w1 := (wSg a cI cJ F B K x_8051.2 I T)) hP hD [0, 1, 2, 3, 4, 5, 6, 7, 8, 9, 10, 11, 12, 13, 14, 15, 16, 17] [] rfl rfl (by decide) (by decide) hk1 hFc hP1 hD1
          generalize H1 = H at hP hS ⊢
          have hP : va_P (dC, dI) vwCl (wSg a cI cJ F B K x_8051.2 I T) H := hP
          have hD : va_D A (wSg a cI cJ F B K x_8051.2 I T) := hD
          refine lv_iconst (v := 1) hx hb dL_isWell_41 (by decide) ?_
          refine lv_icmp_ne (tgt := 49) hx hb dL_isWell_42 (by decide) (fun c_8052 => ?_) (fun c_8052 => ?_)
          · replace hf := (if_neg c_8052).symm.trans hf
            refine lv_iconst (v := 0) hx hb dL_isWell_49 (by decide) ?_
            refine lv_icmp_ne (tgt := 96) hx hb dL_isWell_50 (by decide) (fun c_8053 => ?_) (fun c_8053 => ?_)
            · replace hf := (if_neg c_8053).symm.trans hf
              refine lv_iconst (v := 0) hx hb dL_isWell_96 (by decide) ?_
              replace hf := hret_8 (0, x_8051.2) (Option.some.inj hf).symm
              subst hf
              have hP9 := hP
              have hD9 := hD
              exact W.zret (v := 0) (ty := .boolean) hx hb hr rfl (fun t ht hW => ⟨⟨0, (), rfl, rfl, ⟨by rw [ht]; exact hP9, va_K.moved hW.alike hK, hD9⟩⟩, hS.F ht⟩) hS.2.2 dL_isWell_97
            · replace hf := (if_pos c_8053).symm.trans hf
              refine lv_iload_n hx hb dL_isWell_53 rfl (lv_at hl 2 rfl) ?_
              refine lv_if_lt (tgt := 78) hx hb dL_isWell_54 (by decide) (fun c_8054 => ?_) (fun c_8054 => ?_)
              · replace hf := (if_pos c_8054).symm.trans hf
                refine lv_iload_n hx hb dL_isWell_78 rfl (lv_at hl 2 rfl) ?_
                refine lv_if_lt (tgt := 98) hx hb dL_isWell_79 (by decide) (fun c_8055 => ?_) (fun c_8055 => ?_)
                · replace hf := (if_pos c_8055).symm.trans hf
                  refine lv_iinc (v := i3_8 + 1) (lv' := [(3, .int (i3_8 + 1)), (4, .int x_8003.1), (2, .int x_1), (0, .ref (a 0)), (1, .int x1)]) hx hb dL_isWell_98 hl (k := 1) rfl rfl (by decide) rfl (fun ls hl => ?_)
                  refine lv_goto (tgt := 8) hx hb dL_isWell_101 (by decide) ?_
                  exact ih (i3_8 + 1) x_8051.2 H locs ls _ (lv_sub hl [0, 2, 3, 4] rfl) hP hD hS hf hret_8 hex_8
                · replace hf := (if_neg c_8055).symm.trans hf
                  refine lv_aload_n hx hb dL_isWell_82 rfl (lv_at hl 3 rfl) ?_
                  refine lv_iload_n hx hb dL_isWell_83 rfl (lv_at hl 2 rfl) ?_
                  refine lv_iconst (v := 4) hx hb dL_isWell_84 (by decide) ?_
                  obtain ⟨x_8056, hx_8056, hf⟩ := Option.bind_eq_some_iff.mp hf
                  have hFc := va_free (wc := (wSg a cI cJ F B K x_8051.2 I T)) hD hS hA [0, 1, 2, 3, 4, 5, 6, 7, 8, 9, 10, 11, 12, 13, 14, 15, 16, 17] rfl
                  refine va_calli (va_runV (As := [.int x_1, .int 4]) (rest := []) ⟨hx, hb, hml, hown, hts⟩ (c_X5_ofLine l dC dI cI cJ a H.size F B K x_8051.2 I T x_1 4 x_8056 hx_8056) (cwV 2 hts gM_isWell_X5_ofLine rfl rfl rfl (by decide +kernel) ⟨Nat.le_of_ble_eq_true rfl, Nat.le_of_ble_eq_true rfl⟩) ⟨q_Wblind, va_recv hK hP (ci := 5) (q0 := 0) rfl rfl, q_Wpre hP hK hn hD⟩ rfl rfl hl.1 rfl (lv_room (Nat.le_of_ble_eq_true rfl)) dL_isWell_85 ⟨by show 0 + 0 ≤ 0; omega, by show 0 + 0 ≤ 0; omega⟩) hS (fun q _ h => hFc q h) hFc (fun r_9 u t H1 locs ht hvm hw hB hz1 hk1 hS => ?_)
                  subst hw
                  obtain ⟨hP1, hK1, hD1⟩ := hB
                  rw [ht] at hP1
                  obtain ⟨hP, hD⟩ := va_join (wr := []) (w1 := (wSg a cI cJ F B K x_8056.2 I T)) hP hD [0, 1, 2, 3, 4, 5, 6, 7, 8, 9, 10, 11, 12, 13, 14, 15, 16, 17] [] rfl rfl (by decide) (by decide) hk1 hFc hP1 hD1
                  generalize H1 = H at hP hS ⊢
                  have hP : va_P (dC, dI) vwCl (wSg a cI cJ F B K x_8056.2 I T) H := hP
                  have hD : va_D A (wSg a cI cJ F B K x_8056.2 I T) := hD
                  refine lv_aload_n hx hb dL_isWell_88 rfl (lv_at hl 3 rfl) ?_
                  refine lv_iconst (v := 2) hx hb dL_isWell_89 (by decide) ?_
                  obtain ⟨x_8057, hx_8057, hf⟩ := Option.bind_eq_some_iff.mp hf
                  refine q_rV (As := [.int 2]) (rest := [.int x_8056.1]) ⟨hx, hb, hml, hown, hts⟩ (c_X5_sign l dC dI cI cJ a F B K x_8056.2 I T 2 x_8057 hx_8057) (cwV 1 hts gM_isWell_X5_sign rfl rfl rfl (by decide +kernel) ⟨Nat.le_of_ble_eq_true rfl, Nat.le_of_ble_eq_true rfl⟩) hK hn hP (ci := 5) rfl rfl rfl hl.1 rfl (Nat.le_of_ble_eq_true rfl) dL_isWell_90 ⟨by show 0 ≤ 0; omega, by show 0 ≤ 0; omega⟩ ?_
                  refine lv_icmp_le (tgt := 98) hx hb dL_isWell_93 (by decide) (fun c_8058 => ?_) (fun c_8058 => ?_)
                  · replace hf := (if_pos c_8058).symm.trans hf
                    refine lv_iinc (v := i3_8 + 1) (lv' := [(3, .int (i3_8 + 1)), (4, .int x_8003.1), (2, .int x_1), (0, .ref (a 0)), (1, .int x1)]) hx hb dL_isWell_98 hl (k := 1) rfl rfl (by decide) rfl (fun ls hl => ?_)
                    refine lv_goto (tgt := 8) hx hb dL_isWell_101 (by decide) ?_
                    exact ih (i3_8 + 1) x_8056.2 H locs ls _ (lv_sub hl [0, 2, 3, 4] rfl) hP hD hS hf hret_8 hex_8
                  · replace hf := (if_neg c_8058).symm.trans hf
                    refine lv_iconst (v := 0) hx hb dL_isWell_96 (by decide) ?_
                    replace hf := hret_8 (0, x_8056.2) (Option.some.inj hf).symm
                    subst hf
                    have hP9 := hP
                    have hD9 := hD
                    exact W.zret (v := 0) (ty := .boolean) hx hb hr rfl (fun t ht hW => ⟨⟨0, (), rfl, rfl, ⟨by rw [ht]; exact hP9, va_K.moved hW.alike hK, hD9⟩⟩, hS.F ht⟩) hS.2.2 dL_isWell_97
              · replace hf := (if_neg c_8054).symm.trans hf
                refine lv_iload_n hx hb dL_isWell_57 rfl (lv_at hl 1 rfl) ?_
                refine lv_iload_n hx hb dL_isWell_58 rfl (lv_at hl 2 rfl) ?_
                refine lv_icmp_eq (tgt := 78) hx hb dL_isWell_59 (by decide) (fun c_8059 => ?_) (fun c_8059 => ?_)
                · replace hf := (if_pos c_8059).symm.trans hf
                  refine lv_iload_n hx hb dL_isWell_78 rfl (lv_at hl 2 rfl) ?_
                  refine lv_if_lt (tgt := 98) hx hb dL_isWell_79 (by decide) (fun c_8060 => ?_) (fun c_8060 => ?_)
                  · replace hf := (if_pos c_8060).symm.trans hf
                    refine lv_iinc (v := i3_8 + 1) (lv' := [(3, .int (i3_8 + 1)), (4, .int x_8003.1), (2, .int x_1), (0, .ref (a 0)), (1, .int x1)]) hx hb dL_isWell_98 hl (k := 1) rfl rfl (by decide) rfl (fun ls hl => ?_)
                    refine lv_goto (tgt := 8) hx hb dL_isWell_101 (by decide) ?_
                    exact ih (i3_8 + 1) x_8051.2 H locs ls _ (lv_sub hl [0, 2, 3, 4] rfl) hP hD hS hf hret_8 hex_8
                  · replace hf := (if_neg c_8060).symm.trans hf
                    refine lv_aload_n hx hb dL_isWell_82 rfl (lv_at hl 3 rfl) ?_
                    refine lv_iload_n hx hb dL_isWell_83 rfl (lv_at hl 2 rfl) ?_
                    refine lv_iconst (v := 4) hx hb dL_isWell_84 (by decide) ?_
                    obtain ⟨x_8061, hx_8061, hf⟩ := Option.bind_eq_some_iff.mp hf
                    have hFc := va_free (wc := (wSg a cI cJ F B K x_8051.2 I T)) hD hS hA [0, 1, 2, 3, 4, 5, 6, 7, 8, 9, 10, 11, 12, 13, 14, 15, 16, 17] rfl
                    refine va_calli (va_runV (As := [.int x_1, .int 4]) (rest := []) ⟨hx, hb, hml, hown, hts⟩ (c_X5_ofLine l dC dI cI cJ a H.size F B K x_8051.2 I T x_1 4 x_8061 hx_8061) (cwV 2 hts gM_isWell_X5_ofLine rfl rfl rfl (by decide +kernel) ⟨Nat.le_of_ble_eq_true rfl, Nat.le_of_ble_eq_true rfl⟩) ⟨q_Wblind, va_recv hK hP (ci := 5) (q0 := 0) rfl rfl, q_Wpre hP hK hn hD⟩ rfl rfl hl.1 rfl (lv_room (Nat.le_of_ble_eq_true rfl)) dL_isWell_85 ⟨by show 0 + 0 ≤ 0; omega, by show 0 + 0 ≤ 0; omega⟩) hS (fun q _ h => hFc q h) hFc (fun r_9 u t H1 locs ht hvm hw hB hz1 hk1 hS => ?_)
                    subst hw
                    obtain ⟨hP1, hK1, hD1⟩ := hB
                    rw [ht] at hP1
                    obtain ⟨hP, hD⟩ := va_join (wr := []) (w1 := (wSg a cI cJ F B K x_8061.2 I T)) hP hD [0, 1, 2, 3, 4, 5, 6, 7, 8, 9, 10, 11, 12, 13, 14, 15, 16, 17] [] rfl rfl (by decide) (by decide) hk1 hFc hP1 hD1
                    generalize H1 = H at hP hS ⊢
                    have hP : va_P (dC, dI) vwCl (wSg a cI cJ F B K x_8061.2 I T) H := hP
                    have hD : va_D A (wSg a cI cJ F B K x_8061.2 I T) := hD
                    refine lv_aload_n hx hb dL_isWell_88 rfl (lv_at hl 3 rfl) ?_
                    refine lv_iconst (v := 2) hx hb dL_isWell_89 (by decide) ?_
                    obtain ⟨x_8062, hx_8062, hf⟩ := Option.bind_eq_some_iff.mp hf
                    refine q_rV (As := [.int 2]) (rest := [.int x_8061.1]) ⟨hx, hb, hml, hown, hts⟩ (c_X5_sign l dC dI cI cJ a F B K x_8061.2 I T 2 x_8062 hx_8062) (cwV 1 hts gM_isWell_X5_sign rfl rfl rfl (by decide +kernel) ⟨Nat.le_of_ble_eq_true rfl, Nat.le_of_ble_eq_true rfl⟩) hK hn hP (ci := 5) rfl rfl rfl hl.1 rfl (Nat.le_of_ble_eq_true rfl) dL_isWell_90 ⟨by show 0 ≤ 0; omega, by show 0 ≤ 0; omega⟩ ?_
                    refine lv_icmp_le (tgt := 98) hx hb dL_isWell_93 (by decide) (fun c_8063 => ?_) (fun c_8063 => ?_)
                    · replace hf := (if_pos c_8063).symm.trans hf
                      refine lv_iinc (v := i3_8 + 1) (lv' := [(3, .int (i3_8 + 1)), (4, .int x_8003.1), (2, .int x_1), (0, .ref (a 0)), (1, .int x1)]) hx hb dL_isWell_98 hl (k := 1) rfl rfl (by decide) rfl (fun ls hl => ?_)
                      refine lv_goto (tgt := 8) hx hb dL_isWell_101 (by decide) ?_
                      exact ih (i3_8 + 1) x_8061.2 H locs ls _ (lv_sub hl [0, 2, 3, 4] rfl) hP hD hS hf hret_8 hex_8
                    · replace hf := (if_neg c_8063).symm.trans hf
                      refine lv_iconst (v := 0) hx hb dL_isWell_96 (by decide) ?_
                      replace hf := hret_8 (0, x_8061.2) (Option.some.inj hf).symm
                      subst hf
                      have hP9 := hP
                      have hD9 := hD
                      exact W.zret (v := 0) (ty := .boolean) hx hb hr rfl (fun t ht hW => ⟨⟨0, (), rfl, rfl, ⟨by rw [ht]; exact hP9, va_K.moved hW.alike hK, hD9⟩⟩, hS.F ht⟩) hS.2.2 dL_isWell_97
                · replace hf := (if_neg c_8059).symm.trans hf
                  refine lv_iload hx hb dL_isWell_62 (lv_at hl 0 rfl) ?_
                  refine lv_if_lt (tgt := 78) hx hb dL_isWell_64 (by decide) (fun c_8064 => ?_) (fun c_8064 => ?_)
                  · replace hf := (if_pos c_8064).symm.trans hf
                    refine lv_iload_n hx hb dL_isWell_78 rfl (lv_at hl 2 rfl) ?_
                    refine lv_if_lt (tgt := 98) hx hb dL_isWell_79 (by decide) (fun c_8065 => ?_) (fun c_8065 => ?_)
                    · replace hf := (if_pos c_8065).symm.trans hf
                      refine lv_iinc (v := i3_8 + 1) (lv' := [(3, .int (i3_8 + 1)), (4, .int x_8003.1), (2, .int x_1), (0, .ref (a 0)), (1, .int x1)]) hx hb dL_isWell_98 hl (k := 1) rfl rfl (by decide) rfl (fun ls hl => ?_)
                      refine lv_goto (tgt := 8) hx hb dL_isWell_101 (by decide) ?_
                      exact ih (i3_8 + 1) x_8051.2 H locs ls _ (lv_sub hl [0, 2, 3, 4] rfl) hP hD hS hf hret_8 hex_8
                    · replace hf := (if_neg c_8065).symm.trans hf
                      refine lv_aload_n hx hb dL_isWell_82 rfl (lv_at hl 3 rfl) ?_
                      refine lv_iload_n hx hb dL_isWell_83 rfl (lv_at hl 2 rfl) ?_
                      refine lv_iconst (v := 4) hx hb dL_isWell_84 (by decide) ?_
                      obtain ⟨x_8066, hx_8066, hf⟩ := Option.bind_eq_some_iff.mp hf
                      have hFc := va_free (wc := (wSg a cI cJ F B K x_8051.2 I T)) hD hS hA [0, 1, 2, 3, 4, 5, 6, 7, 8, 9, 10, 11, 12, 13, 14, 15, 16, 17] rfl
                      refine va_calli (va_runV (As := [.int x_1, .int 4]) (rest := []) ⟨hx, hb, hml, hown, hts⟩ (c_X5_ofLine l dC dI cI cJ a H.size F B K x_8051.2 I T x_1 4 x_8066 hx_8066) (cwV 2 hts gM_isWell_X5_ofLine rfl rfl rfl (by decide +kernel) ⟨Nat.le_of_ble_eq_true rfl, Nat.le_of_ble_eq_true rfl⟩) ⟨q_Wblind, va_recv hK hP (ci := 5) (q0 := 0) rfl rfl, q_Wpre hP hK hn hD⟩ rfl rfl hl.1 rfl (lv_room (Nat.le_of_ble_eq_true rfl)) dL_isWell_85 ⟨by show 0 + 0 ≤ 0; omega, by show 0 + 0 ≤ 0; omega⟩) hS (fun q _ h => hFc q h) hFc (fun r_9 u t H1 locs ht hvm hw hB hz1 hk1 hS => ?_)
                      subst hw
                      obtain ⟨hP1, hK1, hD1⟩ := hB
                      rw [ht] at hP1
                      obtain ⟨hP, hD⟩ := va_join (wr := []) (w1 := (wSg a cI cJ F B K x_8066.2 I T)) hP hD [0, 1, 2, 3, 4, 5, 6, 7, 8, 9, 10, 11, 12, 13, 14, 15, 16, 17] [] rfl rfl (by decide) (by decide) hk1 hFc hP1 hD1
                      generalize H1 = H at hP hS ⊢
                      have hP : va_P (dC, dI) vwCl (wSg a cI cJ F B K x_8066.2 I T) H := hP
                      have hD : va_D A (wSg a cI cJ F B K x_8066.2 I T) := hD
                      refine lv_aload_n hx hb dL_isWell_88 rfl (lv_at hl 3 rfl) ?_
                      refine lv_iconst (v := 2) hx hb dL_isWell_89 (by decide) ?_
                      obtain ⟨x_8067, hx_8067, hf⟩ := Option.bind_eq_some_iff.mp hf
                      refine q_rV (As := [.int 2]) (rest := [.int x_8066.1]) ⟨hx, hb, hml, hown, hts⟩ (c_X5_sign l dC dI cI cJ a F B K x_8066.2 I T 2 x_8067 hx_8067) (cwV 1 hts gM_isWell_X5_sign rfl rfl rfl (by decide +kernel) ⟨Nat.le_of_ble_eq_true rfl, Nat.le_of_ble_eq_true rfl⟩) hK hn hP (ci := 5) rfl rfl rfl hl.1 rfl (Nat.le_of_ble_eq_true rfl) dL_isWell_90 ⟨by show 0 ≤ 0; omega, by show 0 ≤ 0; omega⟩ ?_
                      refine lv_icmp_le (tgt := 98) hx hb dL_isWell_93 (by decide) (fun c_8068 => ?_) (fun c_8068 => ?_)
                      · replace hf := (if_pos c_8068).symm.trans hf
                        refine lv_iinc (v := i3_8 + 1) (lv' := [(3, .int (i3_8 + 1)), (4, .int x_8003.1), (2, .int x_1), (0, .ref (a 0)), (1, .int x1)]) hx hb dL_isWell_98 hl (k := 1) rfl rfl (by decide) rfl (fun ls hl => ?_)
                        refine lv_goto (tgt := 8) hx hb dL_isWell_101 (by decide) ?_
                        exact ih (i3_8 + 1) x_8066.2 H locs ls _ (lv_sub hl [0, 2, 3, 4] rfl) hP hD hS hf hret_8 hex_8
                      · replace hf := (if_neg c_8068).symm.trans hf
                        refine lv_iconst (v := 0) hx hb dL_isWell_96 (by decide) ?_
                        replace hf := hret_8 (0, x_8066.2) (Option.some.inj hf).symm
                        subst hf
                        have hP9 := hP
                        have hD9 := hD
                        exact W.zret (v := 0) (ty := .boolean) hx hb hr rfl (fun t ht hW => ⟨⟨0, (), rfl, rfl, ⟨by rw [ht]; exact hP9, va_K.moved hW.alike hK, hD9⟩⟩, hS.F ht⟩) hS.2.2 dL_isWell_97
                  · replace hf := (if_neg c_8064).symm.trans hf
                    refine lv_iload hx hb dL_isWell_67 (lv_at hl 0 rfl) ?_
                    refine lv_aload_n hx hb dL_isWell_69 rfl (lv_at hl 3 rfl) ?_
                    refine lv_iload_n hx hb dL_isWell_70 rfl (lv_at hl 2 rfl) ?_
                    refine lv_iconst (v := 4) hx hb dL_isWell_71 (by decide) ?_
                    obtain ⟨x_8069, hx_8069, hf⟩ := Option.bind_eq_some_iff.mp hf
                    have hFc := va_free (wc := (wSg a cI cJ F B K x_8051.2 I T)) hD hS hA [0, 1, 2, 3, 4, 5, 6, 7, 8, 9, 10, 11, 12, 13, 14, 15, 16, 17] rfl
                    refine va_calli (va_runV (As := [.int x_1, .int 4]) (rest := [.int x_8003.1]) ⟨hx, hb, hml, hown, hts⟩ (c_X5_ofLine l dC dI cI cJ a H.size F B K x_8051.2 I T x_1 4 x_8069 hx_8069) (cwV 2 hts gM_isWell_X5_ofLine rfl rfl rfl (by decide +kernel) ⟨Nat.le_of_ble_eq_true rfl, Nat.le_of_ble_eq_true rfl⟩) ⟨q_Wblind, va_recv hK hP (ci := 5) (q0 := 0) rfl rfl, q_Wpre hP hK hn hD⟩ rfl rfl hl.1 rfl (lv_room (Nat.le_of_ble_eq_true rfl)) dL_isWell_72 ⟨by show 0 + 0 ≤ 0; omega, by show 0 + 0 ≤ 0; omega⟩) hS (fun q _ h => hFc q h) hFc (fun r_9 u t H1 locs ht hvm hw hB hz1 hk1 hS => ?_)
                    subst hw
                    obtain ⟨hP1, hK1, hD1⟩ := hB
                    rw [ht] at hP1
                    obtain ⟨hP, hD⟩ := va_join (wr := []) (w1 := (wSg a cI cJ F B K x_8069.2 I T)) hP hD [0, 1, 2, 3, 4, 5, 6, 7, 8, 9, 10, 11, 12, 13, 14, 15, 16, 17] [] rfl rfl (by decide) (by decide) hk1 hFc hP1 hD1
                    generalize H1 = H at hP hS ⊢
                    have hP : va_P (dC, dI) vwCl (wSg a cI cJ F B K x_8069.2 I T) H := hP
                    have hD : va_D A (wSg a cI cJ F B K x_8069.2 I T) := hD
                    refine lv_icmp_le (tgt := 96) hx hb dL_isWell_75 (by decide) (fun c_8070 => ?_) (fun c_8070 => ?_)
                    · replace hf := (if_pos c_8070).symm.trans hf
                      refine lv_iconst (v := 0) hx hb dL_isWell_96 (by decide) ?_
                      replace hf := hret_8 (0, x_8069.2) (Option.some.inj hf).symm
                      subst hf
                      have hP9 := hP
                      have hD9 := hD
                      exact W.zret (v := 0) (ty := .boolean) hx hb hr rfl (fun t ht hW => ⟨⟨0, (), rfl, rfl, ⟨by rw [ht]; exact hP9, va_K.moved hW.alike hK, hD9⟩⟩, hS.F ht⟩) hS.2.2 dL_isWell_97
                    · replace hf := (if_neg c_8070).symm.trans hf
                      refine lv_iload_n hx hb dL_isWell_78 rfl (lv_at hl 2 rfl) ?_
                      refine lv_if_lt (tgt := 98) hx hb dL_isWell_79 (by decide) (fun c_8071 => ?_) (fun c_8071 => ?_)
                      · replace hf := (if_pos c_8071).symm.trans hf
                        refine lv_iinc (v := i3_8 + 1) (lv' := [(3, .int (i3_8 + 1)), (4, .int x_8003.1), (2, .int x_1), (0, .ref (a 0)), (1, .int x1)]) hx hb dL_isWell_98 hl (k := 1) rfl rfl (by decide) rfl (fun ls hl => ?_)
                        refine lv_goto (tgt := 8) hx hb dL_isWell_101 (by decide) ?_
                        exact ih (i3_8 + 1) x_8069.2 H locs ls _ (lv_sub hl [0, 2, 3, 4] rfl) hP hD hS hf hret_8 hex_8
                      · replace hf := (if_neg c_8071).symm.trans hf
                        refine lv_aload_n hx hb dL_isWell_82 rfl (lv_at hl 3 rfl) ?_
                        refine lv_iload_n hx hb dL_isWell_83 rfl (lv_at hl 2 rfl) ?_
                        refine lv_iconst (v := 4) hx hb dL_isWell_84 (by decide) ?_
                        obtain ⟨x_8072, hx_8072, hf⟩ := Option.bind_eq_some_iff.mp hf
                        have hFc := va_free (wc := (wSg a cI cJ F B K x_8069.2 I T)) hD hS hA [0, 1, 2, 3, 4, 5, 6, 7, 8, 9, 10, 11, 12, 13, 14, 15, 16, 17] rfl
                        refine va_calli (va_runV (As := [.int x_1, .int 4]) (rest := []) ⟨hx, hb, hml, hown, hts⟩ (c_X5_ofLine l dC dI cI cJ a H.size F B K x_8069.2 I T x_1 4 x_8072 hx_8072) (cwV 2 hts gM_isWell_X5_ofLine rfl rfl rfl (by decide +kernel) ⟨Nat.le_of_ble_eq_true rfl, Nat.le_of_ble_eq_true rfl⟩) ⟨q_Wblind, va_recv hK hP (ci := 5) (q0 := 0) rfl rfl, q_Wpre hP hK hn hD⟩ rfl rfl hl.1 rfl (lv_room (Nat.le_of_ble_eq_true rfl)) dL_isWell_85 ⟨by show 0 + 0 ≤ 0; omega, by show 0 + 0 ≤ 0; omega⟩) hS (fun q _ h => hFc q h) hFc (fun r_9 u t H1 locs ht hvm hw hB hz1 hk1 hS => ?_)
                        subst hw
                        obtain ⟨hP1, hK1, hD1⟩ := hB
                        rw [ht] at hP1
                        obtain ⟨hP, hD⟩ := va_join (wr := []) (w1 := (wSg a cI cJ F B K x_8072.2 I T)) hP hD [0, 1, 2, 3, 4, 5, 6, 7, 8, 9, 10, 11, 12, 13, 14, 15, 16, 17] [] rfl rfl (by decide) (by decide) hk1 hFc hP1 hD1
                        generalize H1 = H at hP hS ⊢
                        have hP : va_P (dC, dI) vwCl (wSg a cI cJ F B K x_8072.2 I T) H := hP
                        have hD : va_D A (wSg a cI cJ F B K x_8072.2 I T) := hD
                        refine lv_aload_n hx hb dL_isWell_88 rfl (lv_at hl 3 rfl) ?_
                        refine lv_iconst (v := 2) hx hb dL_isWell_89 (by decide) ?_
                        obtain ⟨x_8073, hx_8073, hf⟩ := Option.bind_eq_some_iff.mp hf
                        refine q_rV (As := [.int 2]) (rest := [.int x_8072.1]) ⟨hx, hb, hml, hown, hts⟩ (c_X5_sign l dC dI cI cJ a F B K x_8072.2 I T 2 x_8073 hx_8073) (cwV 1 hts gM_isWell_X5_sign rfl rfl rfl (by decide +kernel) ⟨Nat.le_of_ble_eq_true rfl, Nat.le_of_ble_eq_true rfl⟩) hK hn hP (ci := 5) rfl rfl rfl hl.1 rfl (Nat.le_of_ble_eq_true rfl) dL_isWell_90 ⟨by show 0 ≤ 0; omega, by show 0 ≤ 0; omega⟩ ?_
                        refine lv_icmp_le (tgt := 98) hx hb dL_isWell_93 (by decide) (fun c_8074 => ?_) (fun c_8074 => ?_)
                        · replace hf := (if_pos c_8074).symm.trans hf
                          refine lv_iinc (v := i3_8 + 1) (lv' := [(3, .int (i3_8 + 1)), (4, .int x_8003.1), (2, .int x_1), (0, .ref (a 0)), (1, .int x1)]) hx hb dL_isWell_98 hl (k := 1) rfl rfl (by decide) rfl (fun ls hl => ?_)
                          refine lv_goto (tgt := 8) hx hb dL_isWell_101 (by decide) ?_
                          exact ih (i3_8 + 1) x_8072.2 H locs ls _ (lv_sub hl [0, 2, 3, 4] rfl) hP hD hS hf hret_8 hex_8
                        · replace hf := (if_neg c_8074).symm.trans hf
                          refine lv_iconst (v := 0) hx hb dL_isWell_96 (by decide) ?_
                          replace hf := hret_8 (0, x_8072.2) (Option.some.inj hf).symm
                          subst hf
                          have hP9 := hP
                          have hD9 := hD
                          exact W.zret (v := 0) (ty := .boolean) hx hb hr rfl (fun t ht hW => ⟨⟨0, (), rfl, rfl, ⟨by rw [ht]; exact hP9, va_K.moved hW.alike hK, hD9⟩⟩, hS.F ht⟩) hS.2.2 dL_isWell_97
          · replace hf := (if_pos c_8052).symm.trans hf
            refine lv_iconst (v := 1) hx hb dL_isWell_45 (by decide) ?_
            refine lv_goto (tgt := 50) hx hb dL_isWell_46 (by decide) ?_
            refine lv_icmp_ne (tgt := 96) hx hb dL_isWell_50 (by decide) (fun c_8075 => ?_) (fun c_8075 => ?_)
            · replace hf := (if_neg c_8075).symm.trans hf
              refine lv_iconst (v := 0) hx hb dL_isWell_96 (by decide) ?_
              replace hf := hret_8 (0, x_8051.2) (Option.some.inj hf).symm
              subst hf
              have hP9 := hP
              have hD9 := hD
              exact W.zret (v := 0) (ty := .boolean) hx hb hr rfl (fun t ht hW => ⟨⟨0, (), rfl, rfl, ⟨by rw [ht]; exact hP9, va_K.moved hW.alike hK, hD9⟩⟩, hS.F ht⟩) hS.2.2 dL_isWell_97
            · replace hf := (if_pos c_8075).symm.trans hf
              refine lv_iload_n hx hb dL_isWell_53 rfl (lv_at hl 2 rfl) ?_
              refine lv_if_lt (tgt := 78) hx hb dL_isWell_54 (by decide) (fun c_8076 => ?_) (fun c_8076 => ?_)
              · replace hf := (if_pos c_8076).symm.trans hf
                refine lv_iload_n hx hb dL_isWell_78 rfl (lv_at hl 2 rfl) ?_
                refine lv_if_lt (tgt := 98) hx hb dL_isWell_79 (by decide) (fun c_8077 => ?_) (fun c_8077 => ?_)
                · replace hf := (if_pos c_8077).symm.trans hf
                  refine lv_iinc (v := i3_8 + 1) (lv' := [(3, .int (i3_8 + 1)), (4, .int x_8003.1), (2, .int x_1), (0, .ref (a 0)), (1, .int x1)]) hx hb dL_isWell_98 hl (k := 1) rfl rfl (by decide) rfl (fun ls hl => ?_)
                  refine lv_goto (tgt := 8) hx hb dL_isWell_101 (by decide) ?_
                  exact ih (i3_8 + 1) x_8051.2 H locs ls _ (lv_sub hl [0, 2, 3, 4] rfl) hP hD hS hf hret_8 hex_8
                · replace hf := (if_neg c_8077).symm.trans hf
                  refine lv_aload_n hx hb dL_isWell_82 rfl (lv_at hl 3 rfl) ?_
                  refine lv_iload_n hx hb dL_isWell_83 rfl (lv_at hl 2 rfl) ?_
                  refine lv_iconst (v := 4) hx hb dL_isWell_84 (by decide) ?_
                  obtain ⟨x_8078, hx_8078, hf⟩ := Option.bind_eq_some_iff.mp hf
                  have hFc := va_free (wc := (wSg a cI cJ F B K x_8051.2 I T)) hD hS hA [0, 1, 2, 3, 4, 5, 6, 7, 8, 9, 10, 11, 12, 13, 14, 15, 16, 17] rfl
                  refine va_calli (va_runV (As := [.int x_1, .int 4]) (rest := []) ⟨hx, hb, hml, hown, hts⟩ (c_X5_ofLine l dC dI cI cJ a H.size F B K x_8051.2 I T x_1 4 x_8078 hx_8078) (cwV 2 hts gM_isWell_X5_ofLine rfl rfl rfl (by decide +kernel) ⟨Nat.le_of_ble_eq_true rfl, Nat.le_of_ble_eq_true rfl⟩) ⟨q_Wblind, va_recv hK hP (ci := 5) (q0 := 0) rfl rfl, q_Wpre hP hK hn hD⟩ rfl rfl hl.1 rfl (lv_room (Nat.le_of_ble_eq_true rfl)) dL_isWell_85 ⟨by show 0 + 0 ≤ 0; omega, by show 0 + 0 ≤ 0; omega⟩) hS (fun q _ h => hFc q h) hFc (fun r_9 u t H1 locs ht hvm hw hB hz1 hk1 hS => ?_)
                  subst hw
                  obtain ⟨hP1, hK1, hD1⟩ := hB
                  rw [ht] at hP1
                  obtain ⟨hP, hD⟩ := va_join (wr := []) (w1 := (wSg a cI cJ F B K x_8078.2 I T)) hP hD [0, 1, 2, 3, 4, 5, 6, 7, 8, 9, 10, 11, 12, 13, 14, 15, 16, 17] [] rfl rfl (by decide) (by decide) hk1 hFc hP1 hD1
                  generalize H1 = H at hP hS ⊢
                  have hP : va_P (dC, dI) vwCl (wSg a cI cJ F B K x_8078.2 I T) H := hP
                  have hD : va_D A (wSg a cI cJ F B K x_8078.2 I T) := hD
                  refine lv_aload_n hx hb dL_isWell_88 rfl (lv_at hl 3 rfl) ?_
                  refine lv_iconst (v := 2) hx hb dL_isWell_89 (by decide) ?_
                  obtain ⟨x_8079, hx_8079, hf⟩ := Option.bind_eq_some_iff.mp hf
                  refine q_rV (As := [.int 2]) (rest := [.int x_8078.1]) ⟨hx, hb, hml, hown, hts⟩ (c_X5_sign l dC dI cI cJ a F B K x_8078.2 I T 2 x_8079 hx_8079) (cwV 1 hts gM_isWell_X5_sign rfl rfl rfl (by decide +kernel) ⟨Nat.le_of_ble_eq_true rfl, Nat.le_of_ble_eq_true rfl⟩) hK hn hP (ci := 5) rfl rfl rfl hl.1 rfl (Nat.le_of_ble_eq_true rfl) dL_isWell_90 ⟨by show 0 ≤ 0; omega, by show 0 ≤ 0; omega⟩ ?_
                  refine lv_icmp_le (tgt := 98) hx hb dL_isWell_93 (by decide) (fun c_8080 => ?_) (fun c_8080 => ?_)
                  · replace hf := (if_pos c_8080).symm.trans hf
                    refine lv_iinc (v := i3_8 + 1) (lv' := [(3, .int (i3_8 + 1)), (4, .int x_8003.1), (2, .int x_1), (0, .ref (a 0)), (1, .int x1)]) hx hb dL_isWell_98 hl (k := 1) rfl rfl (by decide) rfl (fun ls hl => ?_)
                    refine lv_goto (tgt := 8) hx hb dL_isWell_101 (by decide) ?_
                    exact ih (i3_8 + 1) x_8078.2 H locs ls _ (lv_sub hl [0, 2, 3, 4] rfl) hP hD hS hf hret_8 hex_8
                  · replace hf := (if_neg c_8080).symm.trans hf
                    refine lv_iconst (v := 0) hx hb dL_isWell_96 (by decide) ?_
                    replace hf := hret_8 (0, x_8078.2) (Option.some.inj hf).symm
                    subst hf
                    have hP9 := hP
                    have hD9 := hD
                    exact W.zret (v := 0) (ty := .boolean) hx hb hr rfl (fun t ht hW => ⟨⟨0, (), rfl, rfl, ⟨by rw [ht]; exact hP9, va_K.moved hW.alike hK, hD9⟩⟩, hS.F ht⟩) hS.2.2 dL_isWell_97
              · replace hf := (if_neg c_8076).symm.trans hf
                refine lv_iload_n hx hb dL_isWell_57 rfl (lv_at hl 1 rfl) ?_
                refine lv_iload_n hx hb dL_isWell_58 rfl (lv_at hl 2 rfl) ?_
                refine lv_icmp_eq (tgt := 78) hx hb dL_isWell_59 (by decide) (fun c_8081 => ?_) (fun c_8081 => ?_)
                · replace hf := (if_pos c_8081).symm.trans hf
                  refine lv_iload_n hx hb dL_isWell_78 rfl (lv_at hl 2 rfl) ?_
                  refine lv_if_lt (tgt := 98) hx hb dL_isWell_79 (by decide) (fun c_8082 => ?_) (fun c_8082 => ?_)
                  · replace hf := (if_pos c_8082).symm.trans hf
                    refine lv_iinc (v := i3_8 + 1) (lv' := [(3, .int (i3_8 + 1)), (4, .int x_8003.1), (2, .int x_1), (0, .ref (a 0)), (1, .int x1)]) hx hb dL_isWell_98 hl (k := 1) rfl rfl (by decide) rfl (fun ls hl => ?_)
                    refine lv_goto (tgt := 8) hx hb dL_isWell_101 (by decide) ?_
                    exact ih (i3_8 + 1) x_8051.2 H locs ls _ (lv_sub hl [0, 2, 3, 4] rfl) hP hD hS hf hret_8 hex_8
                  · replace hf := (if_neg c_8082).symm.trans hf
                    refine lv_aload_n hx hb dL_isWell_82 rfl (lv_at hl 3 rfl) ?_
                    refine lv_iload_n hx hb dL_isWell_83 rfl (lv_at hl 2 rfl) ?_
                    refine lv_iconst (v := 4) hx hb dL_isWell_84 (by decide) ?_
                    obtain ⟨x_8083, hx_8083, hf⟩ := Option.bind_eq_some_iff.mp hf
                    have hFc := va_free (wc := (wSg a cI cJ F B K x_8051.2 I T)) hD hS hA [0, 1, 2, 3, 4, 5, 6, 7, 8, 9, 10, 11, 12, 13, 14, 15, 16, 17] rfl
                    refine va_calli (va_runV (As := [.int x_1, .int 4]) (rest := []) ⟨hx, hb, hml, hown, hts⟩ (c_X5_ofLine l dC dI cI cJ a H.size F B K x_8051.2 I T x_1 4 x_8083 hx_8083) (cwV 2 hts gM_isWell_X5_ofLine rfl rfl rfl (by decide +kernel) ⟨Nat.le_of_ble_eq_true rfl, Nat.le_of_ble_eq_true rfl⟩) ⟨q_Wblind, va_recv hK hP (ci := 5) (q0 := 0) rfl rfl, q_Wpre hP hK hn hD⟩ rfl rfl hl.1 rfl (lv_room (Nat.le_of_ble_eq_true rfl)) dL_isWell_85 ⟨by show 0 + 0 ≤ 0; omega, by show 0 + 0 ≤ 0; omega⟩) hS (fun q _ h => hFc q h) hFc (fun r_9 u t H1 locs ht hvm hw hB hz1 hk1 hS => ?_)
                    subst hw
                    obtain ⟨hP1, hK1, hD1⟩ := hB
                    rw [ht] at hP1
                    obtain ⟨hP, hD⟩ := va_join (wr := []) (w1 := (wSg a cI cJ F B K x_8083.2 I T)) hP hD [0, 1, 2, 3, 4, 5, 6, 7, 8, 9, 10, 11, 12, 13, 14, 15, 16, 17] [] rfl rfl (by decide) (by decide) hk1 hFc hP1 hD1
                    generalize H1 = H at hP hS ⊢
                    have hP : va_P (dC, dI) vwCl (wSg a cI cJ F B K x_8083.2 I T) H := hP
                    have hD : va_D A (wSg a cI cJ F B K x_8083.2 I T) := hD
                    refine lv_aload_n hx hb dL_isWell_88 rfl (lv_at hl 3 rfl) ?_
                    refine lv_iconst (v := 2) hx hb dL_isWell_89 (by decide) ?_
                    obtain ⟨x_8084, hx_8084, hf⟩ := Option.bind_eq_some_iff.mp hf
                    refine q_rV (As := [.int 2]) (rest := [.int x_8083.1]) ⟨hx, hb, hml, hown, hts⟩ (c_X5_sign l dC dI cI cJ a F B K x_8083.2 I T 2 x_8084 hx_8084) (cwV 1 hts gM_isWell_X5_sign rfl rfl rfl (by decide +kernel) ⟨Nat.le_of_ble_eq_true rfl, Nat.le_of_ble_eq_true rfl⟩) hK hn hP (ci := 5) rfl rfl rfl hl.1 rfl (Nat.le_of_ble_eq_true rfl) dL_isWell_90 ⟨by show 0 ≤ 0; omega, by show 0 ≤ 0; omega⟩ ?_
                    refine lv_icmp_le (tgt := 98) hx hb dL_isWell_93 (by decide) (fun c_8085 => ?_) (fun c_8085 => ?_)
                    · replace hf := (if_pos c_8085).symm.trans hf
                      refine lv_iinc (v := i3_8 + 1) (lv' := [(3, .int (i3_8 + 1)), (4, .int x_8003.1), (2, .int x_1), (0, .ref (a 0)), (1, .int x1)]) hx hb dL_isWell_98 hl (k := 1) rfl rfl (by decide) rfl (fun ls hl => ?_)
                      refine lv_goto (tgt := 8) hx hb dL_isWell_101 (by decide) ?_
                      exact ih (i3_8 + 1) x_8083.2 H locs ls _ (lv_sub hl [0, 2, 3, 4] rfl) hP hD hS hf hret_8 hex_8
                    · replace hf := (if_neg c_8085).symm.trans hf
                      refine lv_iconst (v := 0) hx hb dL_isWell_96 (by decide) ?_
                      replace hf := hret_8 (0, x_8083.2) (Option.some.inj hf).symm
                      subst hf
                      have hP9 := hP
                      have hD9 := hD
                      exact W.zret (v := 0) (ty := .boolean) hx hb hr rfl (fun t ht hW => ⟨⟨0, (), rfl, rfl, ⟨by rw [ht]; exact hP9, va_K.moved hW.alike hK, hD9⟩⟩, hS.F ht⟩) hS.2.2 dL_isWell_97
                · replace hf := (if_neg c_8081).symm.trans hf
                  refine lv_iload hx hb dL_isWell_62 (lv_at hl 0 rfl) ?_
                  refine lv_if_lt (tgt := 78) hx hb dL_isWell_64 (by decide) (fun c_8086 => ?_) (fun c_8086 => ?_)
                  · replace hf := (if_pos c_8086).symm.trans hf
                    refine lv_iload_n hx hb dL_isWell_78 rfl (lv_at hl 2 rfl) ?_
                    refine lv_if_lt (tgt := 98) hx hb dL_isWell_79 (by decide) (fun c_8087 => ?_) (fun c_8087 => ?_)
                    · replace hf := (if_pos c_8087).symm.trans hf
                      refine lv_iinc (v := i3_8 + 1) (lv' := [(3, .int (i3_8 + 1)), (4, .int x_8003.1), (2, .int x_1), (0, .ref (a 0)), (1, .int x1)]) hx hb dL_isWell_98 hl (k := 1) rfl rfl (by decide) rfl (fun ls hl => ?_)
                      refine lv_goto (tgt := 8) hx hb dL_isWell_101 (by decide) ?_
                      exact ih (i3_8 + 1) x_8051.2 H locs ls _ (lv_sub hl [0, 2, 3, 4] rfl) hP hD hS hf hret_8 hex_8
                    · replace hf := (if_neg c_8087).symm.trans hf
                      refine lv_aload_n hx hb dL_isWell_82 rfl (lv_at hl 3 rfl) ?_
                      refine lv_iload_n hx hb dL_isWell_83 rfl (lv_at hl 2 rfl) ?_
                      refine lv_iconst (v := 4) hx hb dL_isWell_84 (by decide) ?_
                      obtain ⟨x_8088, hx_8088, hf⟩ := Option.bind_eq_some_iff.mp hf
                      have hFc := va_free (wc := (wSg a cI cJ F B K x_8051.2 I T)) hD hS hA [0, 1, 2, 3, 4, 5, 6, 7, 8, 9, 10, 11, 12, 13, 14, 15, 16, 17] rfl
                      refine va_calli (va_runV (As := [.int x_1, .int 4]) (rest := []) ⟨hx, hb, hml, hown, hts⟩ (c_X5_ofLine l dC dI cI cJ a H.size F B K x_8051.2 I T x_1 4 x_8088 hx_8088) (cwV 2 hts gM_isWell_X5_ofLine rfl rfl rfl (by decide +kernel) ⟨Nat.le_of_ble_eq_true rfl, Nat.le_of_ble_eq_true rfl⟩) ⟨q_Wblind, va_recv hK hP (ci := 5) (q0 := 0) rfl rfl, q_Wpre hP hK hn hD⟩ rfl rfl hl.1 rfl (lv_room (Nat.le_of_ble_eq_true rfl)) dL_isWell_85 ⟨by show 0 + 0 ≤ 0; omega, by show 0 + 0 ≤ 0; omega⟩) hS (fun q _ h => hFc q h) hFc (fun r_9 u t H1 locs ht hvm hw hB hz1 hk1 hS => ?_)
                      subst hw
                      obtain ⟨hP1, hK1, hD1⟩ := hB
                      rw [ht] at hP1
                      obtain ⟨hP, hD⟩ := va_join (wr := []) (w1 := (wSg a cI cJ F B K x_8088.2 I T)) hP hD [0, 1, 2, 3, 4, 5, 6, 7, 8, 9, 10, 11, 12, 13, 14, 15, 16, 17] [] rfl rfl (by decide) (by decide) hk1 hFc hP1 hD1
                      generalize H1 = H at hP hS ⊢
                      have hP : va_P (dC, dI) vwCl (wSg a cI cJ F B K x_8088.2 I T) H := hP
                      have hD : va_D A (wSg a cI cJ F B K x_8088.2 I T) := hD
                      refine lv_aload_n hx hb dL_isWell_88 rfl (lv_at hl 3 rfl) ?_
                      refine lv_iconst (v := 2) hx hb dL_isWell_89 (by decide) ?_
                      obtain ⟨x_8089, hx_8089, hf⟩ := Option.bind_eq_some_iff.mp hf
                      refine q_rV (As := [.int 2]) (rest := [.int x_8088.1]) ⟨hx, hb, hml, hown, hts⟩ (c_X5_sign l dC dI cI cJ a F B K x_8088.2 I T 2 x_8089 hx_8089) (cwV 1 hts gM_isWell_X5_sign rfl rfl rfl (by decide +kernel) ⟨Nat.le_of_ble_eq_true rfl, Nat.le_of_ble_eq_true rfl⟩) hK hn hP (ci := 5) rfl rfl rfl hl.1 rfl (Nat.le_of_ble_eq_true rfl) dL_isWell_90 ⟨by show 0 ≤ 0; omega, by show 0 ≤ 0; omega⟩ ?_
                      refine lv_icmp_le (tgt := 98) hx hb dL_isWell_93 (by decide) (fun c_8090 => ?_) (fun c_8090 => ?_)
                      · replace hf := (if_pos c_8090).symm.trans hf
                        refine lv_iinc (v := i3_8 + 1) (lv' := [(3, .int (i3_8 + 1)), (4, .int x_8003.1), (2, .int x_1), (0, .ref (a 0)), (1, .int x1)]) hx hb dL_isWell_98 hl (k := 1) rfl rfl (by decide) rfl (fun ls hl => ?_)
                        refine lv_goto (tgt := 8) hx hb dL_isWell_101 (by decide) ?_
                        exact ih (i3_8 + 1) x_8088.2 H locs ls _ (lv_sub hl [0, 2, 3, 4] rfl) hP hD hS hf hret_8 hex_8
                      · replace hf := (if_neg c_8090).symm.trans hf
                        refine lv_iconst (v := 0) hx hb dL_isWell_96 (by decide) ?_
                        replace hf := hret_8 (0, x_8088.2) (Option.some.inj hf).symm
                        subst hf
                        have hP9 := hP
                        have hD9 := hD
                        exact W.zret (v := 0) (ty := .boolean) hx hb hr rfl (fun t ht hW => ⟨⟨0, (), rfl, rfl, ⟨by rw [ht]; exact hP9, va_K.moved hW.alike hK, hD9⟩⟩, hS.F ht⟩) hS.2.2 dL_isWell_97
                  · replace hf := (if_neg c_8086).symm.trans hf
                    refine lv_iload hx hb dL_isWell_67 (lv_at hl 0 rfl) ?_
                    refine lv_aload_n hx hb dL_isWell_69 rfl (lv_at hl 3 rfl) ?_
                    refine lv_iload_n hx hb dL_isWell_70 rfl (lv_at hl 2 rfl) ?_
                    refine lv_iconst (v := 4) hx hb dL_isWell_71 (by decide) ?_
                    obtain ⟨x_8091, hx_8091, hf⟩ := Option.bind_eq_some_iff.mp hf
                    have hFc := va_free (wc := (wSg a cI cJ F B K x_8051.2 I T)) hD hS hA [0, 1, 2, 3, 4, 5, 6, 7, 8, 9, 10, 11, 12, 13, 14, 15, 16, 17] rfl
                    refine va_calli (va_runV (As := [.int x_1, .int 4]) (rest := [.int x_8003.1]) ⟨hx, hb, hml, hown, hts⟩ (c_X5_ofLine l dC dI cI cJ a H.size F B K x_8051.2 I T x_1 4 x_8091 hx_8091) (cwV 2 hts gM_isWell_X5_ofLine rfl rfl rfl (by decide +kernel) ⟨Nat.le_of_ble_eq_true rfl, Nat.le_of_ble_eq_true rfl⟩) ⟨q_Wblind, va_recv hK hP (ci := 5) (q0 := 0) rfl rfl, q_Wpre hP hK hn hD⟩ rfl rfl hl.1 rfl (lv_room (Nat.le_of_ble_eq_true rfl)) dL_isWell_72 ⟨by show 0 + 0 ≤ 0; omega, by show 0 + 0 ≤ 0; omega⟩) hS (fun q _ h => hFc q h) hFc (fun r_9 u t H1 locs ht hvm hw hB hz1 hk1 hS => ?_)
                    subst hw
                    obtain ⟨hP1, hK1, hD1⟩ := hB
                    rw [ht] at hP1
                    obtain ⟨hP, hD⟩ := va_join (wr := []) (w1 := (wSg a cI cJ F B K x_8091.2 I T)) hP hD [0, 1, 2, 3, 4, 5, 6, 7, 8, 9, 10, 11, 12, 13, 14, 15, 16, 17] [] rfl rfl (by decide) (by decide) hk1 hFc hP1 hD1
                    generalize H1 = H at hP hS ⊢
                    have hP : va_P (dC, dI) vwCl (wSg a cI cJ F B K x_8091.2 I T) H := hP
                    have hD : va_D A (wSg a cI cJ F B K x_8091.2 I T) := hD
                    refine lv_icmp_le (tgt := 96) hx hb dL_isWell_75 (by decide) (fun c_8092 => ?_) (fun c_8092 => ?_)
                    · replace hf := (if_pos c_8092).symm.trans hf
                      refine lv_iconst (v := 0) hx hb dL_isWell_96 (by decide) ?_
                      replace hf := hret_8 (0, x_8091.2) (Option.some.inj hf).symm
                      subst hf
                      have hP9 := hP
                      have hD9 := hD
                      exact W.zret (v := 0) (ty := .boolean) hx hb hr rfl (fun t ht hW => ⟨⟨0, (), rfl, rfl, ⟨by rw [ht]; exact hP9, va_K.moved hW.alike hK, hD9⟩⟩, hS.F ht⟩) hS.2.2 dL_isWell_97
                    · replace hf := (if_neg c_8092).symm.trans hf
                      refine lv_iload_n hx hb dL_isWell_78 rfl (lv_at hl 2 rfl) ?_
                      refine lv_if_lt (tgt := 98) hx hb dL_isWell_79 (by decide) (fun c_8093 => ?_) (fun c_8093 => ?_)
                      · replace hf := (if_pos c_8093).symm.trans hf
                        refine lv_iinc (v := i3_8 + 1) (lv' := [(3, .int (i3_8 + 1)), (4, .int x_8003.1), (2, .int x_1), (0, .ref (a 0)), (1, .int x1)]) hx hb dL_isWell_98 hl (k := 1) rfl rfl (by decide) rfl (fun ls hl => ?_)
                        refine lv_goto (tgt := 8) hx hb dL_isWell_101 (by decide) ?_
                        exact ih (i3_8 + 1) x_8091.2 H locs ls _ (lv_sub hl [0, 2, 3, 4] rfl) hP hD hS hf hret_8 hex_8
                      · replace hf := (if_neg c_8093).symm.trans hf
                        refine lv_aload_n hx hb dL_isWell_82 rfl (lv_at hl 3 rfl) ?_
                        refine lv_iload_n hx hb dL_isWell_83 rfl (lv_at hl 2 rfl) ?_
                        refine lv_iconst (v := 4) hx hb dL_isWell_84 (by decide) ?_
                        obtain ⟨x_8094, hx_8094, hf⟩ := Option.bind_eq_some_iff.mp hf
                        have hFc := va_free (wc := (wSg a cI cJ F B K x_8091.2 I T)) hD hS hA [0, 1, 2, 3, 4, 5, 6, 7, 8, 9, 10, 11, 12, 13, 14, 15, 16, 17] rfl
                        refine va_calli (va_runV (As := [.int x_1, .int 4]) (rest := []) ⟨hx, hb, hml, hown, hts⟩ (c_X5_ofLine l dC dI cI cJ a H.size F B K x_8091.2 I T x_1 4 x_8094 hx_8094) (cwV 2 hts gM_isWell_X5_ofLine rfl rfl rfl (by decide +kernel) ⟨Nat.le_of_ble_eq_true rfl, Nat.le_of_ble_eq_true rfl⟩) ⟨q_Wblind, va_recv hK hP (ci := 5) (q0 := 0) rfl rfl, q_Wpre hP hK hn hD⟩ rfl rfl hl.1 rfl (lv_room (Nat.le_of_ble_eq_true rfl)) dL_isWell_85 ⟨by show 0 + 0 ≤ 0; omega, by show 0 + 0 ≤ 0; omega⟩) hS (fun q _ h => hFc q h) hFc (fun r_9 u t H1 locs ht hvm hw hB hz1 hk1 hS => ?_)
                        subst hw
                        obtain ⟨hP1, hK1, hD1⟩ := hB
                        rw [ht] at hP1
                        obtain ⟨hP, hD⟩ := va_join (wr := []) (w1 := (wSg a cI cJ F B K x_8094.2 I T)) hP hD [0, 1, 2, 3, 4, 5, 6, 7, 8, 9, 10, 11, 12, 13, 14, 15, 16, 17] [] rfl rfl (by decide) (by decide) hk1 hFc hP1 hD1
                        generalize H1 = H at hP hS ⊢
                        have hP : va_P (dC, dI) vwCl (wSg a cI cJ F B K x_8094.2 I T) H := hP
                        have hD : va_D A (wSg a cI cJ F B K x_8094.2 I T) := hD
                        refine lv_aload_n hx hb dL_isWell_88 rfl (lv_at hl 3 rfl) ?_
                        refine lv_iconst (v := 2) hx hb dL_isWell_89 (by decide) ?_
                        obtain ⟨x_8095, hx_8095, hf⟩ := Option.bind_eq_some_iff.mp hf
                        refine q_rV (As := [.int 2]) (rest := [.int x_8094.1]) ⟨hx, hb, hml, hown, hts⟩ (c_X5_sign l dC dI cI cJ a F B K x_8094.2 I T 2 x_8095 hx_8095) (cwV 1 hts gM_isWell_X5_sign rfl rfl rfl (by decide +kernel) ⟨Nat.le_of_ble_eq_true rfl, Nat.le_of_ble_eq_true rfl⟩) hK hn hP (ci := 5) rfl rfl rfl hl.1 rfl (Nat.le_of_ble_eq_true rfl) dL_isWell_90 ⟨by show 0 ≤ 0; omega, by show 0 ≤ 0; omega⟩ ?_
                        refine lv_icmp_le (tgt := 98) hx hb dL_isWell_93 (by decide) (fun c_8096 => ?_) (fun c_8096 => ?_)
                        · replace hf := (if_pos c_8096).symm.trans hf
                          refine lv_iinc (v := i3_8 + 1) (lv' := [(3, .int (i3_8 + 1)), (4, .int x_8003.1), (2, .int x_1), (0, .ref (a 0)), (1, .int x1)]) hx hb dL_isWell_98 hl (k := 1) rfl rfl (by decide) rfl (fun ls hl => ?_)
                          refine lv_goto (tgt := 8) hx hb dL_isWell_101 (by decide) ?_
                          exact ih (i3_8 + 1) x_8094.2 H locs ls _ (lv_sub hl [0, 2, 3, 4] rfl) hP hD hS hf hret_8 hex_8
                        · replace hf := (if_neg c_8096).symm.trans hf
                          refine lv_iconst (v := 0) hx hb dL_isWell_96 (by decide) ?_
                          replace hf := hret_8 (0, x_8094.2) (Option.some.inj hf).symm
                          subst hf
                          have hP9 := hP
                          have hD9 := hD
                          exact W.zret (v := 0) (ty := .boolean) hx hb hr rfl (fun t ht hW => ⟨⟨0, (), rfl, rfl, ⟨by rw [ht]; exact hP9, va_K.moved hW.alike hK, hD9⟩⟩, hS.F ht⟩) hS.2.2 dL_isWell_97
  obtain ⟨z_2, hz_2, hf⟩ := Option.bind_eq_some_iff.mp hf
  refine L_8 1000 0 N H locs ls z_2 (lv_sub hl [0, 1, 2, 3] rfl) hP hD hS hz_2 (fun r_ hz => by rw [hz] at hf; exact Option.some.inj hf) (fun y_3 H locs ls hz hl hP hD hS => ?_)
  subst hz
  simp only [Sum.elim_inr] at hf
  refine lv_iconst (v := 0) hx hb dL_isWell_104 (by decide) ?_
  refine lv_istore_n (lv' := [(3, .int 0), (2, .int x_1), (0, .ref (a 0)), (1, .int x1)]) hx hb dL_isWell_105 rfl hl (by decide) rfl (fun ls hl => ?_)
  have L_106 : ∀ (nn : Nat) (i3_106 : Int32) (H : Heap) (locs : List Loc) (ls : Array Slot) (z_106 : ((Int32 × q_Pl) ⊕ (Int32))), lv_has ls 6 [(3, .int i3_106), (2, .int x_1), (0, .ref (a 0)), (1, .int x1)] → va_P (dC, dI) vwCl (wSg a cI cJ F B K y_3.2 I T) H → va_D A (wSg a cI cJ F B K y_3.2 I T) → va_S A s.heap H locs → fl_L_isWell_106 x1 B y_3 nn i3_106 = some z_106 → (∀ r_ : Int32 × q_Pl, z_106 = .inl r_ → r_ = r0) → (∀ (y : Int32) (H : Heap) (locs : List Loc) (ls : Array Slot), z_106 = .inr y → lv_has ls 6 [(3, .int y), (2, .int x_1), (0, .ref (a 0)), (1, .int x1)] → va_P (dC, dI) vwCl (wSg a cI cJ F B K y_3.2 I T) H → va_D A (wSg a cI cJ F B K y_3.2 I T) → va_S A s.heap H locs → W p l e (headSpec wsM_isWell ({ frames := 6, cells := 0, slots := 0, locals := 138 } : Room)).room s m [.ref (a 0), .int x1].toArray below meth c H locs 0 0 (MQ below (va_Qi (S := Unit) (fun r_ _ => r_ = r0.1) (fun _ => q_E (dC, dI) vwCl (wSg a cI cJ F B K r0.2 I T) (q_ty cI cJ) A) A) [.ref (a 0), .int x1].toArray s 0 0 A) (F0 m 161 ls [])) → W p l e (headSpec wsM_isWell ({ frames := 6, cells := 0, slots := 0, locals := 138 } : Room)).room s m [.ref (a 0), .int x1].toArray below meth c H locs 0 0 (MQ below (va_Qi (S := Unit) (fun r_ _ => r_ = r0.1) (fun _ => q_E (dC, dI) vwCl (wSg a cI cJ F B K r0.2 I T) (q_ty cI cJ) A) A) [.ref (a 0), .int x1].toArray s 0 0 A) (F0 m 106 ls []) := by
    intro nn
    induction nn with
    | zero =>
      intro i3_106 H locs ls z_106 hl hP hD hS hf hret_106 hex_106
      rw [fl_L_isWell_106] at hf
      cases hf
    | succ nn ih =>
      intro i3_106 H locs ls z_106 hl hP hD hS hf hret_106 hex_106
      rw [fl_L_isWell_106] at hf
      refine lv_iload_n hx hb dL_isWell_106 rfl (lv_at hl 0 rfl) ?_
      refine lv_iload_n hx hb dL_isWell_107 rfl (lv_at hl 3 rfl) ?_
      refine lv_icmp_ge (tgt := 161) hx hb dL_isWell_108 (by decide) (fun c_106001 => ?_) (fun c_106001 => ?_)
      · replace hf := (if_pos c_106001).symm.trans hf
        exact hex_106 i3_106 H locs ls (Option.some.inj hf).symm (lv_sub hl [0, 1, 2, 3] rfl) hP hD hS
      · replace hf := (if_neg c_106001).symm.trans hf
        refine lv_iconst (v := 0) hx hb dL_isWell_111 (by decide) ?_
        refine lv_istore (lv' := [(4, .int 0), (3, .int i3_106), (2, .int x_1), (0, .ref (a 0)), (1, .int x1)]) hx hb dL_isWell_112 hl (by decide) rfl (fun ls hl => ?_)
        refine lv_iconst (v := 0) hx hb dL_isWell_114 (by decide) ?_
        refine lv_istore (lv' := [(5, .int 0), (4, .int 0), (3, .int i3_106), (2, .int x_1), (0, .ref (a 0)), (1, .int x1)]) hx hb dL_isWell_115 hl (by decide) rfl (fun ls hl => ?_)
        have L_117 : ∀ (nn : Nat) (i4_117 : Int32) (i5_117 : Int32) (H : Heap) (locs : List Loc) (ls : Array Slot) (z_117 : (Int32 × Int32)), lv_has ls 6 [(5, .int i5_117), (4, .int i4_117), (3, .int i3_106), (2, .int x_1), (0, .ref (a 0)), (1, .int x1)] → va_P (dC, dI) vwCl (wSg a cI cJ F B K y_3.2 I T) H → va_D A (wSg a cI cJ F B K y_3.2 I T) → va_S A s.heap H locs → fl_L_isWell_117 B i3_106 nn i4_117 i5_117 = some z_117 → (∀ (H : Heap) (locs : List Loc) (ls : Array Slot), lv_has ls 6 [(5, .int z_117.2), (4, .int z_117.1), (3, .int i3_106), (2, .int x_1), (0, .ref (a 0)), (1, .int x1)] → va_P (dC, dI) vwCl (wSg a cI cJ F B K y_3.2 I T) H → va_D A (wSg a cI cJ F B K y_3.2 I T) → va_S A s.heap H locs → W p l e (headSpec wsM_isWell ({ frames := 6, cells := 0, slots := 0, locals := 138 } : Room)).room s m [.ref (a 0), .int x1].toArray below meth c H locs 0 0 (MQ below (va_Qi (S := Unit) (fun r_ _ => r_ = r0.1) (fun _ => q_E (dC, dI) vwCl (wSg a cI cJ F B K r0.2 I T) (q_ty cI cJ) A) A) [.ref (a 0), .int x1].toArray s 0 0 A) (F0 m 142 ls [])) → W p l e (headSpec wsM_isWell ({ frames := 6, cells := 0, slots := 0, locals := 138 } : Room)).room s m [.ref (a 0), .int x1].toArray below meth c H locs 0 0 (MQ below (va_Qi (S := Unit) (fun r_ _ => r_ = r0.1) (fun _ => q_E (dC, dI) vwCl (wSg a cI cJ F B K r0.2 I T) (q_ty cI cJ) A) A) [.ref (a 0), .int x1].toArray s 0 0 A) (F0 m 117 ls []) := by
          intro nn
          induction nn with
          | zero =>
            intro i4_117 i5_117 H locs ls z_117 hl hP hD hS hf hex_117
            rw [fl_L_isWell_117] at hf
            cases hf
          | succ nn ih =>
            intro i4_117 i5_117 H locs ls z_117 hl hP hD hS hf hex_117
            rw [fl_L_isWell_117] at hf
            refine lv_iload hx hb dL_isWell_117 (lv_at hl 0 rfl) ?_
            refine lv_iconst (v := 5) hx hb dL_isWell_119 (by decide) ?_
            refine lv_icmp_ge (tgt := 142) hx hb dL_isWell_120 (by decide) (fun c_117001 => ?_) (fun c_117001 => ?_)
            · replace hf := (if_pos c_117001).symm.trans hf
              replace hf := Option.some.inj hf
              subst hf
              exact hex_117 H locs ls (lv_sub hl [0, 1, 2, 3, 4, 5] rfl) hP hD hS
            · replace hf := (if_neg c_117001).symm.trans hf
              refine lv_iload hx hb dL_isWell_123 (lv_at hl 1 rfl) ?_
              refine lv_aload_n hx hb dL_isWell_125 rfl (lv_at hl 4 rfl) ?_
              refine lv_iload_n hx hb dL_isWell_126 rfl (lv_at hl 2 rfl) ?_
              refine lv_iload hx hb dL_isWell_127 (lv_at hl 0 rfl) ?_
              refine lv_iconst (v := 1) hx hb dL_isWell_129 (by decide) ?_
              obtain ⟨x_117002, hx_117002, hf⟩ := Option.bind_eq_some_iff.mp hf
              refine q_rV (As := [.int i3_106, .int i5_117, .int 1]) (rest := [.int i4_117]) ⟨hx, hb, hml, hown, hts⟩ (c_X5_dot l dC dI cI cJ a F B K y_3.2 I T i3_106 i5_117 1 x_117002 hx_117002) (cwV 3 hts gM_isWell_X5_dot rfl rfl rfl (by decide +kernel) ⟨Nat.le_of_ble_eq_true rfl, Nat.le_of_ble_eq_true rfl⟩) hK hn hP (ci := 5) rfl rfl rfl hl.1 rfl (Nat.le_of_ble_eq_true rfl) dL_isWell_130 ⟨by show 0 ≤ 0; omega, by show 0 ≤ 0; omega⟩ ?_
              refine lv_iadd hx hb dL_isWell_133 ?_
              refine lv_istore (lv' := [(4, .int (i4_117 + x_117002)), (5, .int i5_117), (3, .int i3_106), (2, .int x_1), (0, .ref (a 0)), (1, .int x1)]) hx hb dL_isWell_134 hl (by decide) rfl (fun ls hl => ?_)
              refine lv_iinc (v := i5_117 + 1) (lv' := [(5, .int (i5_117 + 1)), (4, .int (i4_117 + x_117002)), (3, .int i3_106), (2, .int x_1), (0, .ref (a 0)), (1, .int x1)]) hx hb dL_isWell_136 hl (k := 1) rfl rfl (by decide) rfl (fun ls hl => ?_)
              refine lv_goto (tgt := 117) hx hb dL_isWell_139 (by decide) ?_
              exact ih (i4_117 + x_117002) (i5_117 + 1) H locs ls _ (lv_sub hl [0, 1, 2, 3, 4, 5] rfl) hP hD hS hf hex_117
        obtain ⟨z_106002, hz_106002, hf⟩ := Option.bind_eq_some_iff.mp hf
        refine L_117 1000 0 0 H locs ls z_106002 (lv_sub hl [0, 1, 2, 3, 4, 5] rfl) hP hD hS hz_106002 (fun H locs ls hl hP hD hS => ?_)
        refine lv_aload_n hx hb dL_isWell_142 rfl (lv_at hl 4 rfl) ?_
        refine lv_iload_n hx hb dL_isWell_143 rfl (lv_at hl 2 rfl) ?_
        refine lv_iconst (v := 1) hx hb dL_isWell_144 (by decide) ?_
        obtain ⟨x_106003, hx_106003, hf⟩ := Option.bind_eq_some_iff.mp hf
        refine q_rV (As := [.int i3_106, .int 1]) (rest := []) ⟨hx, hb, hml, hown, hts⟩ (c_X5_column l dC dI cI cJ a F B K y_3.2 I T i3_106 1 x_106003 hx_106003) (cwV 2 hts gM_isWell_X5_column rfl rfl rfl (by decide +kernel) ⟨Nat.le_of_ble_eq_true rfl, Nat.le_of_ble_eq_true rfl⟩) hK hn hP (ci := 5) rfl rfl rfl hl.1 rfl (Nat.le_of_ble_eq_true rfl) dL_isWell_145 ⟨by show 0 ≤ 0; omega, by show 0 ≤ 0; omega⟩ ?_
        refine lv_iload hx hb dL_isWell_148 (lv_at hl 1 rfl) ?_
        refine lv_icmp_le (tgt := 155) hx hb dL_isWell_150 (by decide) (fun c_106004 => ?_) (fun c_106004 => ?_)
        · replace hf := (if_pos c_106004).symm.trans hf
          refine lv_iinc (v := i3_106 + 1) (lv' := [(3, .int (i3_106 + 1)), (5, .int z_106002.2), (4, .int z_106002.1), (2, .int x_1), (0, .ref (a 0)), (1, .int x1)]) hx hb dL_isWell_155 hl (k := 2) rfl rfl (by decide) rfl (fun ls hl => ?_)
          refine lv_goto (tgt := 106) hx hb dL_isWell_158 (by decide) ?_
          exact ih (i3_106 + 1) H locs ls _ (lv_sub hl [0, 3, 4, 5] rfl) hP hD hS hf hret_106 hex_106
        · replace hf := (if_neg c_106004).symm.trans hf
          refine lv_iconst (v := 0) hx hb dL_isWell_153 (by decide) ?_
          replace hf := hret_106 (0, y_3.2) (Option.some.inj hf).symm
          subst hf
          have hP9 := hP
          have hD9 := hD
          exact W.zret (v := 0) (ty := .boolean) hx hb hr rfl (fun t ht hW => ⟨⟨0, (), rfl, rfl, ⟨by rw [ht]; exact hP9, va_K.moved hW.alike hK, hD9⟩⟩, hS.F ht⟩) hS.2.2 dL_isWell_154
  obtain ⟨z_4, hz_4, hf⟩ := Option.bind_eq_some_iff.mp hf
  refine L_106 1000 0 H locs ls z_4 (lv_sub hl [0, 1, 2, 3] rfl) hP hD hS hz_4 (fun r_ hz => by rw [hz] at hf; exact Option.some.inj hf) (fun y_5 H locs ls hz hl hP hD hS => ?_)
  subst hz
  simp only [Sum.elim_inr] at hf
  refine lv_aload_n hx hb dL_isWell_161 rfl (lv_at hl 2 rfl) ?_
  obtain ⟨x_6, hx_6, hf⟩ := Option.bind_eq_some_iff.mp hf
  have hFc := va_free (wc := (wSg a cI cJ F B K y_3.2 I T)) hD hS hA [0, 1, 2, 3, 4, 5, 6, 7, 8, 9, 10, 11, 12, 13, 14, 15, 16, 17] rfl
  refine va_calli (va_runV (As := []) (rest := []) ⟨hx, hb, hml, hown, hts⟩ (c_X5_isSound l dC dI cI cJ a H.size F B K y_3.2 I T x_6 hx_6) (cwV 0 hts gM_isWell_X5_isSound rfl rfl rfl (by decide +kernel) ⟨Nat.le_of_ble_eq_true rfl, Nat.le_of_ble_eq_true rfl⟩) ⟨q_Wblind, va_recv hK hP (ci := 5) (q0 := 0) rfl rfl, q_Wpre hP hK hn hD⟩ rfl rfl hl.1 rfl (lv_room (Nat.le_of_ble_eq_true rfl)) dL_isWell_162 ⟨by show 0 + 0 ≤ 0; omega, by show 0 + 0 ≤ 0; omega⟩) hS (fun q _ h => hFc q h) hFc (fun r_9 u t H1 locs ht hvm hw hB hz1 hk1 hS => ?_)
  subst hw
  obtain ⟨hP1, hK1, hD1⟩ := hB
  rw [ht] at hP1
  obtain ⟨hP, hD⟩ := va_join (wr := []) (w1 := (wSg a cI cJ F B K x_6.2 I T)) hP hD [0, 1, 2, 3, 4, 5, 6, 7, 8, 9, 10, 11, 12, 13, 14, 15, 16, 17] [] rfl rfl (by decide) (by decide) hk1 hFc hP1 hD1
  generalize H1 = H at hP hS ⊢
  have hP : va_P (dC, dI) vwCl (wSg a cI cJ F B K x_6.2 I T) H := hP
  have hD : va_D A (wSg a cI cJ F B K x_6.2 I T) := hD
  replace hf := Option.some.inj hf
  subst hf
  have hP9 := hP
  have hD9 := hD
  exact W.zret (v := x_6.1) (ty := .boolean) hx hb hr (q_bool_isSound hx_6) (fun t ht hW => ⟨⟨x_6.1, (), rfl, rfl, ⟨by rw [ht]; exact hP9, va_K.moved hW.alike hK, hD9⟩⟩, hS.F ht⟩) hS.2.2 dL_isWell_165
