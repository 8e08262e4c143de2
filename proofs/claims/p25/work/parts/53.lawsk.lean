/-! THE CLAIM OUT OF ONE WALK OF THE LAW'S BODY. Your part is whole_start (and what it stands on); all else here is the same for every law, but numbers. -/
def R_law : String := "FlaplineLaw"
def lw_P (b : Addr) (xs : List Int32) (args : Array Value) (s : State) : Prop := args = #[.ref b] ∧ s.IntsAt b xs ∧ xs.length ≤ 260 ∧ (Jvm.Cond.and given_1 narrow_1).before args s = true
def lw_Q (_ : Array Value) (s : State) (o : Outcome) (t : State) : Prop := o = .returned (some (.int 1)) ∧ Framed s o t [] room_1.cells room_1.slots
def lw_Z (below : List Frame) (a : Array Value) (s : State) : State → Prop := fun t => ∃ o, t.status = .running ∧ Ended t below o ∧ lw_Q a s o t
/-- the law's own end, with 1 on the stack, nothing written that was there before, its room as the claim has it -/
theorem lw_ret {p : Program} {l : Launch} {e : Env} {s : State} {m : MethodId} {below : List Frame} {meth : Method} {c : Code} {b : Nat} (hx : p.tables.exec = Jvm.exec) (hb : c.code = code) (hr : meth.sig.returnType = ret) (hlocks : meth.locks = false) {pc : Nat} {H : Heap} {ls : Array Slot} (hdg : decode code pc = .ok (.ireturn, 1)) : W p l e room_1 s m #[Value.ref b] below meth c H [] room_1.cells room_1.slots (lw_Z below #[Value.ref b] s) (F0 m pc ls [.int 1]) := by
  intro T hT X
  obtain ⟨fs, hret, hrun, hended, hW, hframe⟩ := X.leave (v := some (.int 1)) (hlocks := hlocks) (fun h => by rw [hr] at h; cases h)
  have hmeth' : T.vm.method? m = some meth := X.method'
  refine ⟨T.setFrames fs, ?_, .returned (some (.int 1)), hrun, hended, rfl, ⟨_, rfl⟩, hW, hframe⟩
  jvm_step X.here [X.here.top, hx, hb, hdg, hmeth', hr, ret, narrow_b1]
  (try refine ⟨rfl, ?_⟩); (try refine ⟨rfl, ?_⟩)
  first | (intro acts; rw [hret _ acts rfl rfl rfl]) | rw [hret _ _ rfl rfl rfl]
  exact Steps.refl _
/-- what holds at the law's entry: the machine, the code, the tables' words (any of lw_tbl by 'hts w (by decide +kernel)'), the script of L ints xs at the cell b, what the Statement gives of the start (any of its parts by flat_of_before) -/
def lw_At (p : Program) (s : State) (m : MethodId) (meth : Method) (c : Code) (b L : Nat) (xs : Nat → Int32) : Prop :=
  p.tables.exec = Jvm.exec ∧ c.code = code ∧ meth.sig.returnType = ret ∧ c.maxLocals = 9 ∧ s.vm.findClass R_law = some m.cls ∧ (∀ w ∈ lw_tbl, w.before #[Value.ref b] s = true) ∧ va_X b L xs s s.heap ∧ b < s.heap.size ∧ meth.locks = false ∧ (Jvm.Cond.and given_1 narrow_1).before #[Value.ref b] s = true
set_option maxRecDepth 20000 in
theorem gM_law_X5_init : GoodIn lw_tbl (wsX5_init) := goodIn_sub tb_wsX5_init (by decide +kernel)
set_option maxRecDepth 20000 in
theorem gM_law_L_cell : GoodIn lw_tbl (va_wsS RL 12 yL_cell wsL_cell) := goodIn_app (goodIn_r _ [613, 614, 53] (by decide +kernel) (by decide +kernel)) (goodIn_sub tb_wsL_cell (by decide +kernel))
set_option maxRecDepth 20000 in
theorem gM_law_L_below : GoodIn lw_tbl (va_wsS RL 18 yL_below wsL_below) := goodIn_app (goodIn_r _ [609, 610, 53] (by decide +kernel) (by decide +kernel)) (goodIn_sub tb_wsL_below (by decide +kernel))
set_option maxRecDepth 20000 in
theorem gM_law_X5_width : GoodIn lw_tbl (wsV RL 22 RX5 yX5_width wsX5_width) := goodIn_app (goodIn_r _ [247, 248, 249, 54] (by decide +kernel) (by decide +kernel)) (goodIn_sub tb_wsX5_width (by decide +kernel))
set_option maxRecDepth 20000 in
theorem gM_law_X5_letter : GoodIn lw_tbl (wsV RL 26 RX5 yX5_letter wsX5_letter) := goodIn_app (goodIn_r _ [328, 329, 330, 54] (by decide +kernel) (by decide +kernel)) (goodIn_sub tb_wsX5_letter (by decide +kernel))
set_option maxRecDepth 20000 in
theorem gM_law_L_list : GoodIn lw_tbl (va_wsS RL 30 yL_list wsM_list) := goodIn_app (goodIn_r _ [617, 618, 53] (by decide +kernel) (by decide +kernel)) (goodIn_sub tb_wsM_list (by decide +kernel))
set_option maxRecDepth 20000 in
theorem gM_law_X5_sign : GoodIn lw_tbl (wsV RL 34 RX5 yX5_sign wsX5_sign) := goodIn_app (goodIn_r _ [426, 427, 428, 54] (by decide +kernel) (by decide +kernel)) (goodIn_sub tb_wsX5_sign (by decide +kernel))
set_option maxRecDepth 20000 in
theorem gM_law_X5_power : GoodIn lw_tbl (wsV RL 37 RX5 yX5_power wsX5_power) := goodIn_app (goodIn_r _ [323, 324, 325, 54] (by decide +kernel) (by decide +kernel)) (goodIn_sub tb_wsX5_power (by decide +kernel))
set_option maxRecDepth 20000 in
theorem gM_law_X5_stick : GoodIn lw_tbl (wsV RL 40 RX5 yX5_stick wsX5_stick) := goodIn_app (goodIn_r _ [360, 361, 362, 54] (by decide +kernel) (by decide +kernel)) (goodIn_sub tb_wsX5_stick (by decide +kernel))
set_option maxRecDepth 20000 in
theorem gM_law_X5_swap : GoodIn lw_tbl (wsV RL 44 RX5 yX5_swap wsX5_swap) := goodIn_app (goodIn_r _ [412, 413, 414, 54] (by decide +kernel) (by decide +kernel)) (goodIn_sub tb_wsX5_swap (by decide +kernel))
set_option maxRecDepth 20000 in
theorem gM_law_L_isShown : GoodIn lw_tbl (va_wsS RL 47 yL_isShown wsM_isShown) := goodIn_app (goodIn_r _ [648, 649, 53] (by decide +kernel) (by decide +kernel)) (goodIn_sub tb_wsM_isShown (by decide +kernel))
set_option maxRecDepth 20000 in
theorem gM_law_L_isWell : GoodIn lw_tbl (va_wsS RL 51 yL_isWell wsM_isWell) := goodIn_app (goodIn_r _ [696, 697, 53] (by decide +kernel) (by decide +kernel)) (goodIn_sub tb_wsM_isWell (by decide +kernel))
set_option maxRecDepth 20000 in
theorem gM_law_X5_digest : GoodIn lw_tbl (wsV RL 55 RX5 yX5_digest wsX5_digest) := goodIn_app (goodIn_r _ [575, 576, 577, 54] (by decide +kernel) (by decide +kernel)) (goodIn_sub tb_wsX5_digest (by decide +kernel))
set_option maxRecDepth 20000 in
theorem gM_law_X5_isSound : GoodIn lw_tbl (wsV RL 59 RX5 yX5_isSound wsX5_isSound) := goodIn_app (goodIn_r _ [477, 478, 479, 54] (by decide +kernel) (by decide +kernel)) (goodIn_sub tb_wsX5_isSound (by decide +kernel))
theorem q_XS {b L : Nat} {xs : Nat → Int32} {s : State} {A : Nat → Prop} {H : Heap} {locs : List Loc} (hX : va_X b L xs s s.heap) (hbl : b < s.heap.size) (hbA : ¬ A b) (hS : va_S A s.heap H locs) : va_X b L xs s H := by
  obtain ⟨scr, h1, h2⟩ := hX
  exact ⟨scr, by rw [hS.2.1 b hbl hbA]; exact h1, h2⟩
