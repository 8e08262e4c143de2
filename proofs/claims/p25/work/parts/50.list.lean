def q_Sc (b L : Nat) (xs : Nat → Int32) : State → Prop := fun U => va_X b L xs U U.heap
theorem va_X.alike {b L : Nat} {xs : Nat → Int32} {s U : State} {H : Heap} (hvm : s.vm.Alike U.vm) (h : va_X b L xs s H) : va_X b L xs U H := by
  obtain ⟨scr, h1, h2, h3⟩ := h
  exact ⟨scr, h1, State.isArrayOf_alike hvm h2, h3⟩
theorem q_Scblind {av : List Value} {b L : Nat} {xs : Nat → Int32} : FrameBlind (va_Pc av (q_Sc b L xs)) := fun a U g mk q => ⟨q.1, va_X.alike (s := U) (U := U.calling g mk a) (Vm.Alike.refl U.vm) q.2⟩
section QX
variable {p : Program} {l : Launch} {e : Env} {R : Room} {s : State} {m : MethodId} {args : Array Value} {below : List Frame} {meth : Method} {c : Code} {H : Heap} {locs : List Loc} {cells slots : Nat} {Q : State → Prop}
variable {y : MethodName} {bytes cc : ByteArray} {maxL nL n index pc : Nat} {ret : Option FieldType} {ws : List Cond} {rm : Room} {Ts : List Cond} {own : String} {b L : Nat} {xs : Nat → Int32} {As rest : List Value} {ls : Array Slot} {st0 : List Value} {r : Value}
theorem q_rX (S : CallFix p m c cc nL s args Ts own) (hM : Met l y ws rm (va_Pc As (q_Sc b L xs)) (k2_QcV r) 0 0 (fun _ => False)) (cw : CallB R s args own index y bytes maxL ret ws rm 0 0 n ∧ (Cond.static y).before args s = true) (hX : va_X b L xs s H)
    (hlen : As.length = n) (hsize : ls.size = nL) (hst : st0 = As.reverse ++ rest) (hW : (rest.map fun v => v.category).sum ≤ 8) (hdg : decode cc pc = .ok (.invokestatic index, 3)) (hf : cells ≤ R.cells ∧ slots ≤ R.slots)
    (kk : W p l e R s m args below meth c H locs cells slots Q (F0 m (pc + 3) ls (r :: rest))) : W p l e R s m args below meth c H locs cells slots Q (F0 m pc ls st0) :=
  W.callV (va_Run.run (va_runS (As := As) (rest := rest) (g := F0 m pc ls st0) S hM cw ⟨q_Scblind, fun U hU hW => ⟨rfl, by show va_X b L xs U U.heap; rw [hU]; exact va_X.alike hW.alike hX⟩⟩ rfl hlen hsize hst (lv_room hW) hdg hf)) kk
end QX
set_option maxHeartbeats 4000000 in
set_option maxRecDepth 100000 in
theorem c_L_cell (l : Launch) (b L : Nat) (xs : Nat → Int32) (x1 : Int32) (r0 : Int32) (hf : f_L_cell L xs x1 = some r0) : Met l yL_cell wsL_cell ({ frames := 0, cells := 0, slots := 0, locals := 0 } : Room) (va_Pc [.ref b, .int x1] (q_Sc b L xs)) (k2_QcV (.int r0)) 0 0 (fun _ => False) := by
  refine Met.ofW (cc := cL_cell) (maxL := 2) (ret := (some .int)) (by decide) rfl ?_
  intro p e s m args below meth c s₁ BB hml hv
  obtain ⟨rfl, hX⟩ := hv
  replace hX : va_X b L xs s s.heap := hX
  have hbl : b < s.heap.size := by obtain ⟨scr, h1, -⟩ := hX; exact (Array.getElem?_eq_some_iff.mp h1).1
  have hS : va_S (fun _ => False) s.heap s.heap [] := va_S.rf
  have hx := BB.exec
  have hb := BB.bytes
  have hr := BB.returns
  have hts := atoms_spec (ws := wsL_cell) BB.pre
  have hown : s.vm.findClass RL = some m.cls := findClass_of_methodNamed BB.named
  have hlocks := BB.notSynchronized
  have hl := lv_entry [.ref b, .int x1] (n := 2) (Nat.le_of_ble_eq_true rfl)
  rw [lg_entry_eq]
  generalize (lg_sl [.ref b, .int x1] ++ List.replicate (2 - (lg_sl [.ref b, .int x1]).length) Slot.unset).toArray = ls at hl ⊢
  have hl : lv_has ls 2 [(0, .ref b), (1, .int x1)] := hl
  unfold f_L_cell at hf
  refine lv_iload_n hx hb dL_cell_0 rfl (lv_at hl 1 rfl) ?_
  refine lv_aload_n hx hb dL_cell_1 rfl (lv_at hl 0 rfl) ?_
  refine va_slen hx hb hX hbl (fun h9 => h9) hS dL_cell_2 ?_
  refine lv_icmp_ge (tgt := 12) hx hb dL_cell_3 (by decide) (fun c_1 => ?_) (fun c_1 => ?_)
  · replace hf := (if_pos c_1).symm.trans hf
    refine lv_ldc hx hb hown (hts (.constant RL 8 790386105) (by decide +kernel)) dL_cell_12 ?_
    refine lv_iload_n hx hb dL_cell_14 rfl (lv_at hl 1 rfl) ?_
    refine lv_iconst (v := 3) hx hb dL_cell_15 (by decide) ?_
    refine lv_iadd hx hb dL_cell_16 ?_
    refine lv_imul hx hb dL_cell_17 ?_
    replace hf := Option.some.inj hf
    exact W.iret (v := 790386105 * (x1 + 3)) hx hb hr (fun t ht hW => ⟨congrArg (fun z => Outcome.returned (some (.int z))) hf, ht⟩) (fun q h => absurd h List.not_mem_nil) dL_cell_18
  · replace hf := (if_neg c_1).symm.trans hf
    refine lv_aload_n hx hb dL_cell_6 rfl (lv_at hl 0 rfl) ?_
    refine lv_iload_n hx hb dL_cell_7 rfl (lv_at hl 1 rfl) ?_
    by_cases nc_2 : ¬ q_ix x1 L = true
    · replace hf := (if_neg nc_2).symm.trans hf
      cases hf
    have c_2 := Classical.not_not.mp nc_2
    replace hf := (if_pos c_2).symm.trans hf
    refine va_sld hx hb hX hbl (fun h9 => h9) hS (q_ix_in c_2) dL_cell_8 ?_
    refine lv_goto (tgt := 18) hx hb dL_cell_9 (by decide) ?_
    replace hf := Option.some.inj hf
    exact W.iret (v := xs x1.toNatClampNeg) hx hb hr (fun t ht hW => ⟨congrArg (fun z => Outcome.returned (some (.int z))) hf, ht⟩) (fun q h => absurd h List.not_mem_nil) dL_cell_18
/-! list: it may throw that there is no room for the line -/
def q_X (A : Nat → Prop) (U : State) (H : Heap) : Prop := vx_Zq Bundle.tN "UNASSIGNED_STACK" Bundle.steD A U H ∧ vx_Zq Bundle.tN "SUPPRESSED_SENTINEL" Bundle.listD A U H ∧ va_Nw (.castable "java/lang/IllegalStateException" "java/lang/IllegalStateException") U ∧ (∃ sa : Nat, vk_R RX5 101 "there are 8 LINES, or one with that row" sa U) ∧ va_Nw (.declares (Bundle.initS "java/lang/RuntimeException")) U ∧ va_Nw (.declares (Bundle.initS "java/lang/Exception")) U ∧ va_Nw (.declares (Bundle.initS Bundle.tN)) U
theorem q_X.calling {A : Nat → Prop} {U : State} {g : JFrame} {mk : MethodId} {a : Array Value} (h : q_X A U U.heap) : q_X A (U.calling g mk a) (U.calling g mk a).heap :=
  ⟨vx_Zq.moved (u := U) (U := U.calling g mk a) (Vm.Alike.refl U.vm) h.1, vx_Zq.moved (u := U) (U := U.calling g mk a) (Vm.Alike.refl U.vm) h.2.1, va_Nw.same (u := U) (U := U.calling g mk a) rfl rfl h.2.2.1, h.2.2.2.1.imp fun sa hs => vk_R.same (u := U) (U := U.calling g mk a) rfl hs, va_Nw.same (u := U) (U := U.calling g mk a) rfl rfl h.2.2.2.2.1, va_Nw.same (u := U) (U := U.calling g mk a) rfl rfl h.2.2.2.2.2.1, va_Nw.same (u := U) (U := U.calling g mk a) rfl rfl h.2.2.2.2.2.2⟩
theorem q_X.pre {A A1 : Nat → Prop} {s U : State} {H : Heap} {locs : List Loc} (h : q_X A s s.heap) (hS : va_S A s.heap H locs) (hAB : ∀ q, A1 q → A q) (hU : U.heap = H) (hW : s.WarmedH U.vm) : q_X A1 U U.heap := by
  rw [hU]
  exact ⟨vx_Zq.narrow (vx_Zq.moved hW.alike (h.1.kept hS.2.1)) hAB, vx_Zq.narrow (vx_Zq.moved hW.alike (h.2.1.kept hS.2.1)) hAB, va_Nw.warmC hW h.2.2.1, h.2.2.2.1.imp fun sa hs => vk_R.warm hW hs, va_Nw.warmD hW h.2.2.2.2.1, va_Nw.warmD hW h.2.2.2.2.2.1, va_Nw.warmD hW h.2.2.2.2.2.2⟩
def q_WX (D : va_G) (cl : List vw_C) (ws : va_W) (tys : List (ClassId × FieldType)) (sz : Nat) : State → Prop := fun U => q_W D cl ws tys sz U ∧ q_X (va_A ws sz) U U.heap
theorem q_WXblind {av : List Value} {D : va_G} {cl : List vw_C} {ws : va_W} {tys : List (ClassId × FieldType)} {sz : Nat} : FrameBlind (va_Pc av (q_WX D cl ws tys sz)) := fun a U g mk q => ⟨q.1, (q_Wblind (av := av) a U g mk ⟨q.1, q.2.1⟩).2, q.2.2.calling⟩
theorem q_WXpre {av : List Value} {D : va_G} {cl : List vw_C} {ws : va_W} {tys : List (ClassId × FieldType)} {s : State} {H : Heap} {locs : List Loc} {A : Nat → Prop} (hP : va_P D cl ws H) (hK : va_K D cl tys s) (hn : nwA s) (hD : va_D A ws) (hX : q_X A s s.heap) (hS : va_S A s.heap H locs) (hAB : ∀ q, va_A ws H.size q → A q) : ∀ U : State, U.heap = H → s.WarmedH U.vm → va_Pc av (q_WX D cl ws tys H.size) av.toArray U := fun U hU hW => ⟨rfl, (q_Wpre (av := av) hP hK hn hD U hU hW).2, hX.pre hS hAB hU hW⟩
/-- a body with handlers of its own that returns -/
theorem q_ofWH {l : Launch} {y : MethodName} {ws ws' : List Cond} {rm : Room} {Pc : Array Value → State → Prop} {Qc : Array Value → State → Outcome → State → Prop} {mc ms : Nat} {free : Addr → Prop} {cc : ByteArray} {maxL : Nat} {ret : Option FieldType} {hh : List (Nat × Nat × Nat × Nat)}
    (hy : plainName y.cls = true) (hw : ws = Cond.codeWith y cc maxL ret hh :: ws')
    (body : ∀ p e s m args below meth c s₁, BodyLoose p l y (headSpec ws rm) cc maxL ret e s m args below meth c s₁ → c.maxLocals = maxL → Pc args s →
      W p l e (headSpec ws rm).room s m args below meth c s.heap [] 0 0 (MQ below Qc args s mc ms free) (entryFrame m args maxL)) : Met l y ws rm Pc Qc mc ms free := by
  refine MetFree.of_bodyS (code := cc) (maxLocals := maxL) (ret := ret) hy ?_ ?_
  · intro args s m h hn
    obtain ⟨m9, meth, c, hn9, h1, h2, h3, h4, -, h5, h6, -⟩ := Cond.codeWith_spec (atoms_spec (ws := ws) h _ (by rw [hw]; exact List.mem_cons_self))
    cases hn.symm.trans hn9
    exact ⟨meth, c, h1, h2, h3, h4, h5, h6⟩
  · intro p e s m args below meth c s₁ B hml hP _
    have hh0 : s₁.heap = s.heap := by rw [B.state]; rfl
    obtain ⟨t, a1, o, b1, b2, b3⟩ := body p e s m args below meth c s₁ B hml hP s₁ hh0 (Stand.of_body B)
    exact ⟨t, o, a1, b1, b2, b3⟩
set_option maxHeartbeats 4000000 in
set_option maxRecDepth 100000 in
theorem x_X5_list (l : Launch) (hfl : l.stackTraces = false) (dC : Nat → ClassId) (dI : Nat → Nat → Nat) (cI cJ : ClassId) (a : Nat → Nat) (sz : Nat) (F : q_Fl) (B : q_Bd) (K : q_Bk) (N : q_Pl) (I : q_Wi) (T : q_Rt) (x0 : Int32) (hf : t_X5_list K x0 = some true) : vx_Met l yX5_list wsX5_list ({ frames := 6, cells := 1, slots := 6, locals := 90 } : Room) (va_Pc [.ref (a 0), .int x0] (q_WX (dC, dI) vwCl (wSg a cI cJ F B K N I T) (q_ty cI cJ) sz)) (va_Qi (S := Unit) (fun _ _ => False) (fun _ _ => True) (va_A (wSg a cI cJ F B K N I T) sz)) (vx_X (S := Unit) (fun _ => True) (fun E9 _ t9 => E9 = "java/lang/IllegalStateException" ∧ q_E (dC, dI) vwCl (wSg a cI cJ F B K N I T) (q_ty cI cJ) (va_A (wSg a cI cJ F B K N I T) sz) t9) (va_A (wSg a cI cJ F B K N I T) sz)) 1 6 (va_A (wSg a cI cJ F B K N I T) sz) := by
  refine vx_ofW (cc := cX5_list) (maxL := 2) (ret := (some .int)) (by decide) rfl ?_
  intro p e s m args below meth c s₁ BB hml htab hv
  obtain ⟨rfl, ⟨hsz, hP, hK, hn, hD0⟩, hXX⟩ := hv
  have hx := BB.exec
  have hb := BB.bytes
  have hr := BB.returns
  have hts := atoms_spec (ws := wsX5_list) BB.pre
  have hown : s.vm.findClass RX5 = some m.cls := findClass_of_methodNamed BB.named
  have hlocks := BB.notSynchronized
  subst hsz
  have hD := hD0.self (sz := s.heap.size)
  generalize hAe : va_A (wSg a cI cJ F B K N I T) s.heap.size = A at hD hXX ⊢
  have hA : ∀ q : Nat, s.heap.size ≤ q → A q := fun q h => by rw [← hAe]; exact Or.inr h
  have hS : va_S A s.heap s.heap [] := va_S.rf
  have hi1 : ∀ w ∈ u_ws RX1 TX1 7, w ∈ wsX5_list := by decide +kernel
  have hi5 : ∀ w ∈ u_ws RX5 TX5 9, w ∈ wsX5_list := by decide +kernel
  have hl := lv_entry [.ref (a 0), .int x0] (n := 2) (Nat.le_of_ble_eq_true rfl)
  rw [lg_entry_eq]
  generalize (lg_sl [.ref (a 0), .int x0] ++ List.replicate (2 - (lg_sl [.ref (a 0), .int x0]).length) Slot.unset).toArray = ls at hl ⊢
  have hl : lv_has ls 2 [(0, .ref (a 0)), (1, .int x0)] := hl
  unfold t_X5_list at hf
  refine lv_aload_n hx hb dX5_list_0 rfl (lv_at hl 0 rfl) ?_
  refine va_get (D := (dC, dI)) (ci := 5) (v := .ref (a 4)) (C := RX5) (T := TX5) (N := 9) hx hb hts hi5 hown hK hP 0 rfl rfl 1 (by decide) (hts (.fieldLink RX5 19 RX5 "book" "LFlapline$Book;") (by decide +kernel)) (fun _ h9 => h9) rfl dX5_list_1 ?_
  refine lv_iload_n hx hb dX5_list_4 rfl (lv_at hl 1 rfl) ?_
  obtain ⟨x_1, hx_1, hf⟩ := Option.bind_eq_some_iff.mp hf
  refine q_rVN (As := [.int x0]) (rest := []) ⟨hx, hb, hml, hown, hts⟩ (c_X1_canSpell l dC dI cI cJ (a 4) (a 5) (a 6) (a 7) (a 8) (a 9) K x0 x_1 hx_1) ⟨va_cnB 1 hts gX5_list_X1_canSpell_n90 rfl rfl rfl (nm_RX5_90 hn) (hts (.initialized RX1) (by decide +kernel)) (by decide +kernel) ⟨Nat.le_of_ble_eq_true rfl, Nat.le_of_ble_eq_true rfl⟩, hts (.instanceMethod yX1_canSpell) (by decide +kernel), hts (.selects RX1 yX1_canSpell yX1_canSpell) (by decide +kernel)⟩ hK hn (hP.sub (ws' := (wBk (a 4) (a 5) (a 6) (a 7) (a 8) (a 9) cI cJ K)) [4, 5, 6, 7, 8, 9] rfl) (ci := 1) rfl rfl rfl hl.1 rfl (Nat.le_of_ble_eq_true rfl) dX5_list_5 ⟨Nat.zero_le _, Nat.zero_le _⟩ ?_
  refine lv_if_ne (tgt := 21) hx hb dX5_list_8 (by decide) (fun c_2 => ?_) (fun c_2 => ?_)
  · replace hf := (if_neg c_2).symm.trans hf
    refine lv_aload_n hx hb dX5_list_21 rfl (lv_at hl 0 rfl) ?_
    refine va_get (D := (dC, dI)) (ci := 5) (v := .ref (a 4)) (C := RX5) (T := TX5) (N := 9) hx hb hts hi5 hown hK hP 0 rfl rfl 1 (by decide) (hts (.fieldLink RX5 19 RX5 "book" "LFlapline$Book;") (by decide +kernel)) (fun _ h9 => h9) rfl dX5_list_22 ?_
    refine va_getN (D := (dC, dI)) (ci := 1) (v := .int K.2.2.2.2.2.2) (C := RX1) (T := TX1) (N := 7) hx hb hts hi1 hown hK hP 4 rfl rfl 6 (by decide) (nf_RX5_95 hn) (fun _ h9 => h9) rfl dX5_list_25 ?_
    refine lv_bipush (v := 8) hx hb dX5_list_28 (by decide) ?_
    refine lv_icmp_ge (tgt := 44) hx hb dX5_list_30 (by decide) (fun c_3 => ?_) (fun c_3 => ?_)
    · replace hf := (if_pos c_3).symm.trans hf
      obtain ⟨sa, hstr⟩ := hXX.2.2.2.1
      refine vx_throwS (l := l) (own := RX5) (cls := "java/lang/IllegalStateException") (text := "there are 8 LINES, or one with that row") (names := ["java/lang/RuntimeException", "java/lang/Exception"]) (ik := 81) (is := 101) (ic := 85) (mc := 1) (ms := 6) (sa := sa) (A := A) hx hb hfl hown (by decide +kernel) (by decide +kernel) (hts (.classLink RX5 81 "java/lang/IllegalStateException") (by decide +kernel)) (hts (.initialized "java/lang/IllegalStateException") (by decide +kernel)) hstr ?_ (by decide +kernel) hXX.1 hXX.2.1 hS (hl.1.trans hml.symm) dX5_list_44 dX5_list_47 dX5_list_48 dX5_list_50 dX5_list_53 (fun x9 h9 => (htab x9 h9).elim) (by decide) (by decide) (by decide) (by decide) hlocks ?_ hS.2.2 (by decide) (by decide)
      · exact vx_hat (fun w hw => hts w (List.mem_cons_of_mem _ (List.mem_append_right _ hw))) (by decide +kernel : ∀ w ∈ (vx_atS RX5 85 "java/lang/IllegalStateException" ["java/lang/RuntimeException", "java/lang/Exception"]).filter (fun w => !goodWord w), w ∈ [Cond.castable "java/lang/IllegalStateException" "java/lang/IllegalStateException", .declares (Bundle.initS "java/lang/RuntimeException"), .declares (Bundle.initS "java/lang/Exception"), .declares (Bundle.initS Bundle.tN)]) (vx_c (va_Nw.use rfl hXX.2.2.1) (vx_c (va_Nw.use rfl hXX.2.2.2.2.1) (vx_c (va_Nw.use rfl hXX.2.2.2.2.2.1) (vx_c (va_Nw.use rfl hXX.2.2.2.2.2.2) vx_n))))
      · intro t hal hsz9 hk9
        exact ⟨(), trivial, ⟨rfl, hP.kept (fun k9 q9 h9 => hk9 q9.1 ((hP k9 q9 h9).lt)), va_K.moved hal hK, hD⟩, hsz9, fun q9 h9 _ => hk9 q9 h9⟩
    · replace hf := (if_neg c_3).symm.trans hf
      refine lv_aload_n hx hb dX5_list_33 rfl (lv_at hl 0 rfl) ?_
      refine va_get (D := (dC, dI)) (ci := 5) (v := .ref (a 4)) (C := RX5) (T := TX5) (N := 9) hx hb hts hi5 hown hK hP 0 rfl rfl 1 (by decide) (hts (.fieldLink RX5 19 RX5 "book" "LFlapline$Book;") (by decide +kernel)) (fun _ h9 => h9) rfl dX5_list_34 ?_
      refine lv_iload_n hx hb dX5_list_37 rfl (lv_at hl 1 rfl) ?_
      obtain ⟨x_4, hx_4, hf⟩ := Option.bind_eq_some_iff.mp hf
      refine q_rVN (As := [.int x0]) (rest := []) ⟨hx, hb, hml, hown, hts⟩ (c_X1_hasRow l dC dI cI cJ (a 4) (a 5) (a 6) (a 7) (a 8) (a 9) K x0 x_4 hx_4) ⟨va_cnB 1 hts gX5_list_X1_hasRow_n98 rfl rfl rfl (nm_RX5_98 hn) (hts (.initialized RX1) (by decide +kernel)) (by decide +kernel) ⟨Nat.le_of_ble_eq_true rfl, Nat.le_of_ble_eq_true rfl⟩, hts (.instanceMethod yX1_hasRow) (by decide +kernel), hts (.selects RX1 yX1_hasRow yX1_hasRow) (by decide +kernel)⟩ hK hn (hP.sub (ws' := (wBk (a 4) (a 5) (a 6) (a 7) (a 8) (a 9) cI cJ K)) [4, 5, 6, 7, 8, 9] rfl) (ci := 1) rfl rfl rfl hl.1 rfl (Nat.le_of_ble_eq_true rfl) dX5_list_38 ⟨Nat.zero_le _, Nat.zero_le _⟩ ?_
      refine lv_if_eq (tgt := 54) hx hb dX5_list_41 (by decide) (fun c_5 => ?_) (fun c_5 => ?_)
      · replace hf := (if_pos c_5).symm.trans hf
        cases hf
      · replace hf := (if_neg c_5).symm.trans hf
        obtain ⟨sa, hstr⟩ := hXX.2.2.2.1
        refine vx_throwS (l := l) (own := RX5) (cls := "java/lang/IllegalStateException") (text := "there are 8 LINES, or one with that row") (names := ["java/lang/RuntimeException", "java/lang/Exception"]) (ik := 81) (is := 101) (ic := 85) (mc := 1) (ms := 6) (sa := sa) (A := A) hx hb hfl hown (by decide +kernel) (by decide +kernel) (hts (.classLink RX5 81 "java/lang/IllegalStateException") (by decide +kernel)) (hts (.initialized "java/lang/IllegalStateException") (by decide +kernel)) hstr ?_ (by decide +kernel) hXX.1 hXX.2.1 hS (hl.1.trans hml.symm) dX5_list_44 dX5_list_47 dX5_list_48 dX5_list_50 dX5_list_53 (fun x9 h9 => (htab x9 h9).elim) (by decide) (by decide) (by decide) (by decide) hlocks ?_ hS.2.2 (by decide) (by decide)
        · exact vx_hat (fun w hw => hts w (List.mem_cons_of_mem _ (List.mem_append_right _ hw))) (by decide +kernel : ∀ w ∈ (vx_atS RX5 85 "java/lang/IllegalStateException" ["java/lang/RuntimeException", "java/lang/Exception"]).filter (fun w => !goodWord w), w ∈ [Cond.castable "java/lang/IllegalStateException" "java/lang/IllegalStateException", .declares (Bundle.initS "java/lang/RuntimeException"), .declares (Bundle.initS "java/lang/Exception"), .declares (Bundle.initS Bundle.tN)]) (vx_c (va_Nw.use rfl hXX.2.2.1) (vx_c (va_Nw.use rfl hXX.2.2.2.2.1) (vx_c (va_Nw.use rfl hXX.2.2.2.2.2.1) (vx_c (va_Nw.use rfl hXX.2.2.2.2.2.2) vx_n))))
        · intro t hal hsz9 hk9
          exact ⟨(), trivial, ⟨rfl, hP.kept (fun k9 q9 h9 => hk9 q9.1 ((hP k9 q9 h9).lt)), va_K.moved hal hK, hD⟩, hsz9, fun q9 h9 _ => hk9 q9 h9⟩
  · replace hf := (if_pos c_2).symm.trans hf
    cases hf
def wsM_list_l : List Cond := [.methodLink RL 18 yL_below, .static yL_below, .initialized RL, .methodLink RL 63 yX5_list, .instanceMethod yX5_list, .selects RX5 yX5_list yX5_list, .initialized RX5, .methodLink RL 34 yX5_sign, .instanceMethod yX5_sign, .selects RX5 yX5_sign yX5_sign, .classLink RL 65 "java/lang/IllegalStateException"]
def wsM_list : List Cond := .codeWith yL_list cL_list 4 none [(44, 50, 53, 65)] :: (wsM_list_l ++ (wsL_below ++ (wsX5_list ++ wsX5_sign)))
set_option maxRecDepth 20000 in
theorem gM_list_L_below : GoodIn wsM_list (va_wsS RL 18 yL_below wsL_below) := goodIn_app (goodIn_sub (fun w h => List.mem_cons_of_mem _ (List.mem_append_left _ ((by decide +kernel : ∀ w ∈ ([.methodLink RL 18 yL_below, .static yL_below, .initialized RL] : List Cond), w ∈ wsM_list_l) w h))) (by decide +kernel)) (goodIn_sub (fun w h => List.mem_cons_of_mem _ (List.mem_append_right _ (List.mem_append_left _ h))) (by decide +kernel))
set_option maxRecDepth 20000 in
theorem gM_list_X5_list : GoodIn wsM_list (wsV RL 63 RX5 yX5_list wsX5_list) := goodIn_app (goodIn_sub (fun w h => List.mem_cons_of_mem _ (List.mem_append_left _ ((by decide +kernel : ∀ w ∈ ([.methodLink RL 63 yX5_list, .instanceMethod yX5_list, .selects RX5 yX5_list yX5_list, .initialized RX5] : List Cond), w ∈ wsM_list_l) w h))) (by decide +kernel)) (goodIn_sub (fun w h => List.mem_cons_of_mem _ (List.mem_append_right _ (List.mem_append_right _ (List.mem_append_left _ h)))) (by decide +kernel))
set_option maxRecDepth 20000 in
theorem gM_list_X5_sign : GoodIn wsM_list (wsV RL 34 RX5 yX5_sign wsX5_sign) := goodIn_app (goodIn_sub (fun w h => List.mem_cons_of_mem _ (List.mem_append_left _ ((by decide +kernel : ∀ w ∈ ([.methodLink RL 34 yX5_sign, .instanceMethod yX5_sign, .selects RX5 yX5_sign yX5_sign, .initialized RX5] : List Cond), w ∈ wsM_list_l) w h))) (by decide +kernel)) (goodIn_sub (fun w h => List.mem_cons_of_mem _ (List.mem_append_right _ (List.mem_append_right _ (List.mem_append_right _ h)))) (by decide +kernel))
set_option maxHeartbeats 8000000 in
set_option maxRecDepth 100000 in
theorem c_L_list (l : Launch) (hfl : l.stackTraces = false) (dC : Nat → ClassId) (dI : Nat → Nat → Nat) (cI cJ : ClassId) (a : Nat → Nat) (sz : Nat) (F : q_Fl) (B : q_Bd) (K : q_Bk) (N : q_Pl) (I : q_Wi) (T : q_Rt) (x1 : Int32) (r0 : q_Bk) (hf : f_L_list F B K N I T x1 = some r0) : Met l yL_list wsM_list ({ frames := 7, cells := 1, slots := 6, locals := 115 } : Room) (va_Pc [.ref (a 0), .int x1] (q_WX (dC, dI) vwCl (wSg a cI cJ F B K N I T) (q_ty cI cJ) sz)) (va_Qv (S := Unit) (fun _ => True) (fun _ => q_E (dC, dI) vwCl (wSg a cI cJ F B r0 N I T) (q_ty cI cJ) (va_A (wSg a cI cJ F B K N I T) sz)) (va_A (wSg a cI cJ F B K N I T) sz)) 1 6 (va_A (wSg a cI cJ F B K N I T) sz) := by
  refine q_ofWH (cc := cL_list) (maxL := 4) (ret := none) (hh := [(44, 50, 53, 65)]) (by decide) rfl ?_
  intro p e s m args below meth c s₁ BB hml hv
  obtain ⟨rfl, ⟨hsz, hP, hK, hn, hD0⟩, hXX⟩ := hv
  have hx := BB.exec
  have hb := BB.bytes
  have hr := BB.returns
  have hts := atoms_spec (ws := wsM_list) BB.pre
  have htb := vx_table (x := yL_list) BB (hts _ List.mem_cons_self)
  have hown : s.vm.findClass RL = some m.cls := findClass_of_methodNamed BB.named
  have hlocks := BB.notSynchronized
  subst hsz
  have hD := hD0.self (sz := s.heap.size)
  generalize hAe : va_A (wSg a cI cJ F B K N I T) s.heap.size = A at hD hXX ⊢
  have hA : ∀ q : Nat, s.heap.size ≤ q → A q := fun q h => by rw [← hAe]; exact Or.inr h
  have hS : va_S A s.heap s.heap [] := va_S.rf
  have hl := lv_entry [.ref (a 0), .int x1] (n := 4) (Nat.le_of_ble_eq_true rfl)
  rw [lg_entry_eq]
  generalize (lg_sl [.ref (a 0), .int x1] ++ List.replicate (4 - (lg_sl [.ref (a 0), .int x1]).length) Slot.unset).toArray = ls at hl ⊢
  have hl : lv_has ls 4 [(0, .ref (a 0)), (1, .int x1)] := hl
  suffices hgoal : ∀ (H : Heap) (locs : List Loc), va_P (dC, dI) vwCl (wSg a cI cJ F B K N I T) H → va_S A s.heap H locs → W p l e (headSpec wsM_list ({ frames := 7, cells := 1, slots := 6, locals := 115 } : Room)).room s m [.ref (a 0), .int x1].toArray below meth c H locs 0 0 (MQ below (va_Qv (S := Unit) (fun _ => True) (fun _ => q_E (dC, dI) vwCl (wSg a cI cJ F B r0 N I T) (q_ty cI cJ) A) A) [.ref (a 0), .int x1].toArray s 1 6 A) (F0 m 0 ls []) by
    refine W.widen (k := 0) (n := 0) (by omega) (by omega) ?_
    exact hgoal s.heap [] hP hS
  clear hP hS
  intro H locs hP hS
  unfold f_L_list at hf
  refine lv_iconst (v := 1) hx hb dL_list_0 (by decide) ?_
  refine lv_iload_n hx hb dL_list_1 rfl (lv_at hl 1 rfl) ?_
  refine lv_iconst (v := 3) hx hb dL_list_2 (by decide) ?_
  obtain ⟨x_1, hx_1, hf⟩ := Option.bind_eq_some_iff.mp hf
  refine q_rS (As := [.int x1, .int 3]) (rest := [.int 1]) ⟨hx, hb, hml, hown, hts⟩ (c_L_below l dC dI cI cJ x1 3 x_1 hx_1) (va_cwS 2 hts gM_list_L_below rfl rfl rfl (by decide +kernel) ⟨Nat.le_of_ble_eq_true rfl, Nat.le_of_ble_eq_true rfl⟩) hK hn (hP.sub (ws' := []) [] rfl) rfl hl.1 rfl (Nat.le_of_ble_eq_true rfl) dL_list_3 ⟨by show 0 ≤ 1; omega, by show 0 ≤ 6; omega⟩ ?_
  refine lv_iadd hx hb dL_list_6 ?_
  refine lv_istore_n (lv' := [(2, .int (1 + x_1)), (0, .ref (a 0)), (1, .int x1)]) hx hb dL_list_7 rfl hl (by decide) rfl (fun ls hl => ?_)
  refine lv_iload_n hx hb dL_list_8 rfl (lv_at hl 2 rfl) ?_
  refine lv_iconst (v := 3) hx hb dL_list_9 (by decide) ?_
  refine lv_idiv hx hb dL_list_10 (by decide) ?_
  refine lv_iconst (v := 3) hx hb dL_list_11 (by decide) ?_
  obtain ⟨x_2, hx_2, hf⟩ := Option.bind_eq_some_iff.mp hf
  refine q_rS (As := [.int (x1 / 3), .int 3]) (rest := []) ⟨hx, hb, hml, hown, hts⟩ (c_L_below l dC dI cI cJ (x1 / 3) 3 x_2 hx_2) (va_cwS 2 hts gM_list_L_below rfl rfl rfl (by decide +kernel) ⟨Nat.le_of_ble_eq_true rfl, Nat.le_of_ble_eq_true rfl⟩) hK hn (hP.sub (ws' := []) [] rfl) rfl hl.1 rfl (Nat.le_of_ble_eq_true rfl) dL_list_12 ⟨by show 0 ≤ 1; omega, by show 0 ≤ 6; omega⟩ ?_
  refine lv_istore_n (lv' := [(3, .int x_2), (2, .int (1 + x_1)), (0, .ref (a 0)), (1, .int x1)]) hx hb dL_list_15 rfl hl (by decide) rfl (fun ls hl => ?_)
  have L_16 : ∀ (nn : Nat) (i2_16 : Int32) (i3_16 : Int32) (H : Heap) (locs : List Loc) (ls : Array Slot) (z_16 : (Int32 × Int32)), lv_has ls 4 [(3, .int i3_16), (2, .int i2_16), (0, .ref (a 0)), (1, .int x1)] → va_P (dC, dI) vwCl (wSg a cI cJ F B K N I T) H → va_D A (wSg a cI cJ F B K N I T) → va_S A s.heap H locs → fl_L_list_16 x1 nn i2_16 i3_16 = some z_16 → (∀ (H : Heap) (locs : List Loc) (ls : Array Slot), lv_has ls 4 [(3, .int z_16.2), (2, .int z_16.1), (0, .ref (a 0)), (1, .int x1)] → va_P (dC, dI) vwCl (wSg a cI cJ F B K N I T) H → va_D A (wSg a cI cJ F B K N I T) → va_S A s.heap H locs → W p l e (headSpec wsM_list ({ frames := 7, cells := 1, slots := 6, locals := 115 } : Room)).room s m [.ref (a 0), .int x1].toArray below meth c H locs 0 0 (MQ below (va_Qv (S := Unit) (fun _ => True) (fun _ => q_E (dC, dI) vwCl (wSg a cI cJ F B r0 N I T) (q_ty cI cJ) A) A) [.ref (a 0), .int x1].toArray s 1 6 A) (F0 m 44 ls [])) → W p l e (headSpec wsM_list ({ frames := 7, cells := 1, slots := 6, locals := 115 } : Room)).room s m [.ref (a 0), .int x1].toArray below meth c H locs 0 0 (MQ below (va_Qv (S := Unit) (fun _ => True) (fun _ => q_E (dC, dI) vwCl (wSg a cI cJ F B r0 N I T) (q_ty cI cJ) A) A) [.ref (a 0), .int x1].toArray s 1 6 A) (F0 m 16 ls []) := by
    intro nn
    induction nn with
    | zero =>
      intro i2_16 i3_16 H locs ls z_16 hl hP hD hS hf hex_16
      rw [fl_L_list_16] at hf
      cases hf
    | succ nn ih =>
      intro i2_16 i3_16 H locs ls z_16 hl hP hD hS hf hex_16
      rw [fl_L_list_16] at hf
      refine lv_iload_n hx hb dL_list_16 rfl (lv_at hl 0 rfl) ?_
      refine lv_if_le (tgt := 44) hx hb dL_list_17 (by decide) (fun c_16001 => ?_) (fun c_16001 => ?_)
      · replace hf := (if_pos c_16001).symm.trans hf
        replace hf := Option.some.inj hf
        subst hf
        exact hex_16 H locs ls (lv_sub hl [0, 1, 2, 3] rfl) hP hD hS
      · replace hf := (if_neg c_16001).symm.trans hf
        refine lv_bipush (v := 10) hx hb dL_list_20 (by decide) ?_
        refine lv_iload_n hx hb dL_list_22 rfl (lv_at hl 1 rfl) ?_
        refine lv_imul hx hb dL_list_23 ?_
        refine lv_iconst (v := 1) hx hb dL_list_24 (by decide) ?_
        refine lv_iadd hx hb dL_list_25 ?_
        refine lv_iload_n hx hb dL_list_26 rfl (lv_at hl 3 rfl) ?_
        refine lv_bipush (v := 9) hx hb dL_list_27 (by decide) ?_
        refine lv_idiv hx hb dL_list_29 (by decide) ?_
        refine lv_iload_n hx hb dL_list_30 rfl (lv_at hl 0 rfl) ?_
        refine lv_iadd hx hb dL_list_31 ?_
        refine lv_iconst (v := 3) hx hb dL_list_32 (by decide) ?_
        obtain ⟨x_16002, hx_16002, hf⟩ := Option.bind_eq_some_iff.mp hf
        refine q_rS (As := [.int ((x1 / 9) + i3_16), .int 3]) (rest := [.int ((10 * i2_16) + 1)]) ⟨hx, hb, hml, hown, hts⟩ (c_L_below l dC dI cI cJ ((x1 / 9) + i3_16) 3 x_16002 hx_16002) (va_cwS 2 hts gM_list_L_below rfl rfl rfl (by decide +kernel) ⟨Nat.le_of_ble_eq_true rfl, Nat.le_of_ble_eq_true rfl⟩) hK hn (hP.sub (ws' := []) [] rfl) rfl hl.1 rfl (Nat.le_of_ble_eq_true rfl) dL_list_33 ⟨by show 0 ≤ 1; omega, by show 0 ≤ 6; omega⟩ ?_
        refine lv_iadd hx hb dL_list_36 ?_
        refine lv_istore_n (lv' := [(2, .int (((10 * i2_16) + 1) + x_16002)), (3, .int i3_16), (0, .ref (a 0)), (1, .int x1)]) hx hb dL_list_37 rfl hl (by decide) rfl (fun ls hl => ?_)
        refine lv_iinc (v := i3_16 + (-1)) (lv' := [(3, .int (i3_16 + (-1))), (2, .int (((10 * i2_16) + 1) + x_16002)), (0, .ref (a 0)), (1, .int x1)]) hx hb dL_list_38 hl (k := 1) rfl rfl (by decide) rfl (fun ls hl => ?_)
        refine lv_goto (tgt := 16) hx hb dL_list_41 (by decide) ?_
        exact ih (((10 * i2_16) + 1) + x_16002) (i3_16 + (-1)) H locs ls _ (lv_sub hl [0, 1, 2, 3] rfl) hP hD hS hf hex_16
  obtain ⟨z_3, hz_3, hf⟩ := Option.bind_eq_some_iff.mp hf
  refine L_16 1000 (1 + x_1) x_2 H locs ls z_3 (lv_sub hl [0, 1, 2, 3] rfl) hP hD hS hz_3 (fun H locs ls hl hP hD hS => ?_)
  refine lv_aload_n hx hb dL_list_44 rfl (lv_at hl 2 rfl) ?_
  refine lv_iload_n hx hb dL_list_45 rfl (lv_at hl 1 rfl) ?_
  obtain ⟨tt_4, htt_4, hf⟩ := Option.bind_eq_some_iff.mp hf
  have hFc := va_free (wc := (wSg a cI cJ F B K N I T)) hD hS hA [0, 1, 2, 3, 4, 5, 6, 7, 8, 9, 10, 11, 12, 13, 14, 15, 16, 17] rfl
  by_cases tc_1 : tt_4 = true
  · replace hf := (if_pos tc_1).symm.trans hf
    rw [tc_1] at htt_4
    refine vx_calli (vx_runV (As := [.int z_3.1]) (rest := []) ⟨hx, hb, hml, hown, hts⟩ (x_X5_list l hfl dC dI cI cJ a H.size F B K N I T z_3.1 htt_4) (cwV 1 hts gM_list_X5_list rfl rfl rfl (by decide +kernel) ⟨Nat.le_of_ble_eq_true rfl, Nat.le_of_ble_eq_true rfl⟩) ⟨q_WXblind, va_recv hK hP (ci := 5) (q0 := 0) rfl rfl, q_WXpre hP hK hn hD hXX hS hFc⟩ rfl rfl hl.1 rfl (lv_room (Nat.le_of_ble_eq_true rfl)) dL_list_46 ⟨by show 0 + 1 ≤ 1; omega, by show 0 + 6 ≤ 6; omega⟩) hS (fun q _ h => hFc q h) hFc (fun q _ h => hFc q h) (fun E9 ce q9 u t H1 locs ht hvm hw hB hz1 hk1 hS hce hcv hcl => ?_) (fun r_9 u t H1 locs ht hvm hw hB hz1 hk1 hS => hw.elim)
    obtain ⟨hE, hP1, hK1, hD1⟩ := hB
    subst hE
    rw [ht] at hP1
    obtain ⟨hP, hD⟩ := va_join (wr := []) (w1 := (wSg a cI cJ F B K N I T)) hP hD [0, 1, 2, 3, 4, 5, 6, 7, 8, 9, 10, 11, 12, 13, 14, 15, 16, 17] [] rfl rfl (by decide) (by decide) hk1 hFc hP1 hD1
    generalize H1 = H at hP hS hce ⊢
    have hP : va_P (dC, dI) vwCl (wSg a cI cJ F B K N I T) H := hP
    have hD : va_D A (wSg a cI cJ F B K N I T) := hD
    refine vx_catch (own := RL) (name := "java/lang/IllegalStateException") hown [] ⟨44, 50, 53, 65⟩ [] htb (fun z9 h9 => absurd h9 List.not_mem_nil) (by decide) (by decide) (hts (.classLink RL 65 "java/lang/IllegalStateException") (by decide +kernel)) (va_Nw.use rfl hXX.2.2.1) hce hcv hcl ?_
    refine lv_astore_n (lv' := [(3, .ref q9), (2, .int z_3.1), (0, .ref (a 0)), (1, .int x1)]) hx hb dL_list_53 rfl hl (by decide) rfl (fun ls hl => ?_)
    refine lv_aload_n hx hb dL_list_54 rfl (lv_at hl 2 rfl) ?_
    refine lv_iconst (v := 4) hx hb dL_list_55 (by decide) ?_
    obtain ⟨x_6, hx_6, hf⟩ := Option.bind_eq_some_iff.mp hf
    refine q_rV (As := [.int 4]) (rest := []) ⟨hx, hb, hml, hown, hts⟩ (c_X5_sign l dC dI cI cJ a F B K N I T 4 x_6 hx_6) (cwV 1 hts gM_list_X5_sign rfl rfl rfl (by decide +kernel) ⟨Nat.le_of_ble_eq_true rfl, Nat.le_of_ble_eq_true rfl⟩) hK hn hP (ci := 5) rfl rfl rfl hl.1 rfl (Nat.le_of_ble_eq_true rfl) dL_list_56 ⟨by show 1 ≤ 1; omega, by show 6 ≤ 6; omega⟩ ?_
    refine lv_pop hx hb dL_list_59 rfl ?_
    replace hf := Option.some.inj hf
    subst hf
    have hP9 := hP
    have hD9 := hD
    exact W.vret hx hb hr (fun t ht hW => ⟨⟨(), rfl, trivial, ⟨by rw [ht]; exact hP9, va_K.moved hW.alike hK, hD9⟩⟩, hS.F ht⟩) hS.2.2 dL_list_60
  · replace hf := (if_neg tc_1).symm.trans hf
    obtain ⟨x_5, hx_5, hf⟩ := Option.bind_eq_some_iff.mp hf
    refine va_calli (va_runV (As := [.int z_3.1]) (rest := []) ⟨hx, hb, hml, hown, hts⟩ (c_X5_list l dC dI cI cJ a H.size F B K N I T z_3.1 x_5 hx_5) (cwV 1 hts gM_list_X5_list rfl rfl rfl (by decide +kernel) ⟨Nat.le_of_ble_eq_true rfl, Nat.le_of_ble_eq_true rfl⟩) ⟨q_Wblind, va_recv hK hP (ci := 5) (q0 := 0) rfl rfl, q_Wpre hP hK hn hD⟩ rfl rfl hl.1 rfl (lv_room (Nat.le_of_ble_eq_true rfl)) dL_list_46 ⟨by show 0 + 0 ≤ 1; omega, by show 0 + 0 ≤ 6; omega⟩) hS (fun q _ h => hFc q h) hFc (fun r_9 u t H1 locs ht hvm hw hB hz1 hk1 hS => ?_)
    subst hw
    obtain ⟨hP1, hK1, hD1⟩ := hB
    rw [ht] at hP1
    obtain ⟨hP, hD⟩ := va_join (wr := []) (w1 := (wSg a cI cJ F B x_5.2 N I T)) hP hD [0, 1, 2, 3, 4, 5, 6, 7, 8, 9, 10, 11, 12, 13, 14, 15, 16, 17] [] rfl rfl (by decide) (by decide) hk1 hFc hP1 hD1
    generalize H1 = H at hP hS ⊢
    have hP : va_P (dC, dI) vwCl (wSg a cI cJ F B x_5.2 N I T) H := hP
    have hD : va_D A (wSg a cI cJ F B x_5.2 N I T) := hD
    refine lv_pop hx hb dL_list_49 rfl ?_
    refine lv_goto (tgt := 60) hx hb dL_list_50 (by decide) ?_
    replace hf := Option.some.inj hf
    subst hf
    have hP9 := hP
    have hD9 := hD
    refine W.widen (k := 1) (n := 6) (by omega) (by omega) ?_
    exact W.vret hx hb hr (fun t ht hW => ⟨⟨(), rfl, trivial, ⟨by rw [ht]; exact hP9, va_K.moved hW.alike hK, hD9⟩⟩, hS.F ht⟩) hS.2.2 dL_list_60
