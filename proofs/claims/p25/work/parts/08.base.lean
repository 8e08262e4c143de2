-- the states of the objects, what the worlds hold, the links between nest mates
abbrev q_IA : Type := Nat → Int32
abbrev q_LA : Type := Nat → Int64
abbrev q_Bd : Type := q_IA × q_IA × Int32 × Int64 × Int64 × Int64
abbrev q_Bk : Type := q_IA × q_IA × q_IA × q_IA × q_LA × Int32 × Int32
abbrev q_Pl : Type := q_IA × q_IA × q_IA × Int64 × Int64 × Int32 × Int32 × Int32
abbrev q_Wi : Type := Int32 × Int32 × Int32 × Int32 × Int32
abbrev q_Rt : Type := q_IA × q_IA × Int32 × Int32 × Int32
abbrev q_Fl : Type := Int32 × Int32 × Int32 × Int32
def nwF : List (String × Nat × String × String × String) := [(RX5, 61, RX0, "columns", "I"), (RX5, 78, RX1, "letters", "I"), (RX5, 95, RX1, "lines", "I"), (RX5, 123, RX0, "wear", "[I"), (RX5, 196, RX0, "flips", "[I"), (RX5, 287, RX0, "picture", "J"), (RX5, 294, RX0, "stuck", "J"), (RX5, 302, RX1, "rows", "[I"), (RX5, 305, RX1, "lengths", "[I"), (RX5, 318, RX2, "steps", "I"), (RX5, 342, RX0, "stuckBright", "J"), (RX5, 355, RX2, "goal", "J")]
def nwM : List (String × Nat × MethodName) := [(RX5, 9, yX0_init), (RX5, 18, yX1_init), (RX5, 25, yX2_init), (RX5, 32, yX4_init), (RX5, 39, yX3_init), (RX5, 64, yX0_begin), (RX5, 86, yX1_addLetter), (RX5, 90, yX1_canSpell), (RX5, 98, yX1_hasRow), (RX5, 103, yX1_addLine), (RX5, 113, yX0_faceOf), (RX5, 116, yX0_fix), (RX5, 131, yX0_renewColumn), (RX5, 202, yX0_stuckFaceOf), (RX5, 218, yX2_setOf), (RX5, 250, yX1_placed), (RX5, 267, yX0_isTrue), (RX5, 271, yX3_isTrue), (RX5, 321, yX2_flips), (RX5, 332, yX0_allFlips), (RX5, 338, yX4_fact), (RX5, 341, yX3_fact), (RX5, 351, yX0_withStuck), (RX5, 358, yX0_turnTo), (RX5, 362, yX2_giveUp), (RX5, 365, yX2_begin), (RX5, 371, yX2_choose), (RX5, 374, yX2_forbid), (RX5, 377, yX2_pictureBehind), (RX0, 32, yX5_dotIn), (RX0, 44, yX5_bitOf), (RX0, 48, yX5_put), (RX0, 52, yX5_at), (RX0, 56, yX5_setIn), (RX1, 32, yX5_put), (RX1, 39, yX5_at), (RX1, 47, yX5_put_), (RX1, 50, yX5_bitOf), (RX2, 38, yX5_setIn), (RX2, 51, yX5_at), (RX2, 55, yX5_put), (RX2, 76, yX5_bitOf)]
def nwA (U : State) : Prop := (∀ q ∈ nwF, va_Nw (.fieldLinkNest q.1 q.2.1 q.2.2.1 q.2.2.2.1 q.2.2.2.2 RX5) U) ∧ ∀ q ∈ nwM, va_Nw (.methodLinkNest q.1 q.2.1 q.2.2 RX5) U
theorem nwA.calling {U : State} {g : JFrame} {mk : MethodId} {a : Array Value} (h : nwA U) : nwA (U.calling g mk a) := ⟨fun q hq => va_Nw.same rfl (u := U) (U := U.calling g mk a) rfl (h.1 q hq), fun q hq => va_Nw.same rfl (u := U) (U := U.calling g mk a) rfl (h.2 q hq)⟩
theorem nwA.warm {s U : State} (hW : s.WarmedH U.vm) (h : nwA s) : nwA U := ⟨fun q hq => va_Nw.warmF hW (h.1 q hq), fun q hq => va_Nw.warmM hW (h.2 q hq)⟩
theorem nf_RX5_61 {U : State} {A : Array Value} (h : nwA U) : (Cond.fieldLinkNest RX5 61 RX0 "columns" "I" RX5).before A U = true := va_Nw.use rfl (h.1 (RX5, 61, RX0, "columns", "I") (List.mem_of_getElem? (i := 0) rfl))
theorem nf_RX5_78 {U : State} {A : Array Value} (h : nwA U) : (Cond.fieldLinkNest RX5 78 RX1 "letters" "I" RX5).before A U = true := va_Nw.use rfl (h.1 (RX5, 78, RX1, "letters", "I") (List.mem_of_getElem? (i := 1) rfl))
theorem nf_RX5_95 {U : State} {A : Array Value} (h : nwA U) : (Cond.fieldLinkNest RX5 95 RX1 "lines" "I" RX5).before A U = true := va_Nw.use rfl (h.1 (RX5, 95, RX1, "lines", "I") (List.mem_of_getElem? (i := 2) rfl))
theorem nf_RX5_123 {U : State} {A : Array Value} (h : nwA U) : (Cond.fieldLinkNest RX5 123 RX0 "wear" "[I" RX5).before A U = true := va_Nw.use rfl (h.1 (RX5, 123, RX0, "wear", "[I") (List.mem_of_getElem? (i := 3) rfl))
theorem nf_RX5_196 {U : State} {A : Array Value} (h : nwA U) : (Cond.fieldLinkNest RX5 196 RX0 "flips" "[I" RX5).before A U = true := va_Nw.use rfl (h.1 (RX5, 196, RX0, "flips", "[I") (List.mem_of_getElem? (i := 4) rfl))
theorem nf_RX5_287 {U : State} {A : Array Value} (h : nwA U) : (Cond.fieldLinkNest RX5 287 RX0 "picture" "J" RX5).before A U = true := va_Nw.use rfl (h.1 (RX5, 287, RX0, "picture", "J") (List.mem_of_getElem? (i := 5) rfl))
theorem nf_RX5_294 {U : State} {A : Array Value} (h : nwA U) : (Cond.fieldLinkNest RX5 294 RX0 "stuck" "J" RX5).before A U = true := va_Nw.use rfl (h.1 (RX5, 294, RX0, "stuck", "J") (List.mem_of_getElem? (i := 6) rfl))
theorem nf_RX5_302 {U : State} {A : Array Value} (h : nwA U) : (Cond.fieldLinkNest RX5 302 RX1 "rows" "[I" RX5).before A U = true := va_Nw.use rfl (h.1 (RX5, 302, RX1, "rows", "[I") (List.mem_of_getElem? (i := 7) rfl))
theorem nf_RX5_305 {U : State} {A : Array Value} (h : nwA U) : (Cond.fieldLinkNest RX5 305 RX1 "lengths" "[I" RX5).before A U = true := va_Nw.use rfl (h.1 (RX5, 305, RX1, "lengths", "[I") (List.mem_of_getElem? (i := 8) rfl))
theorem nf_RX5_318 {U : State} {A : Array Value} (h : nwA U) : (Cond.fieldLinkNest RX5 318 RX2 "steps" "I" RX5).before A U = true := va_Nw.use rfl (h.1 (RX5, 318, RX2, "steps", "I") (List.mem_of_getElem? (i := 9) rfl))
theorem nf_RX5_342 {U : State} {A : Array Value} (h : nwA U) : (Cond.fieldLinkNest RX5 342 RX0 "stuckBright" "J" RX5).before A U = true := va_Nw.use rfl (h.1 (RX5, 342, RX0, "stuckBright", "J") (List.mem_of_getElem? (i := 10) rfl))
theorem nf_RX5_355 {U : State} {A : Array Value} (h : nwA U) : (Cond.fieldLinkNest RX5 355 RX2 "goal" "J" RX5).before A U = true := va_Nw.use rfl (h.1 (RX5, 355, RX2, "goal", "J") (List.mem_of_getElem? (i := 11) rfl))
theorem nm_RX5_9 {U : State} (h : nwA U) : va_Nw (.methodLinkNest RX5 9 yX0_init RX5) U := h.2 (RX5, 9, yX0_init) (List.mem_of_getElem? (i := 0) rfl)
theorem nm_RX5_18 {U : State} (h : nwA U) : va_Nw (.methodLinkNest RX5 18 yX1_init RX5) U := h.2 (RX5, 18, yX1_init) (List.mem_of_getElem? (i := 1) rfl)
theorem nm_RX5_25 {U : State} (h : nwA U) : va_Nw (.methodLinkNest RX5 25 yX2_init RX5) U := h.2 (RX5, 25, yX2_init) (List.mem_of_getElem? (i := 2) rfl)
theorem nm_RX5_32 {U : State} (h : nwA U) : va_Nw (.methodLinkNest RX5 32 yX4_init RX5) U := h.2 (RX5, 32, yX4_init) (List.mem_of_getElem? (i := 3) rfl)
theorem nm_RX5_39 {U : State} (h : nwA U) : va_Nw (.methodLinkNest RX5 39 yX3_init RX5) U := h.2 (RX5, 39, yX3_init) (List.mem_of_getElem? (i := 4) rfl)
theorem nm_RX5_64 {U : State} (h : nwA U) : va_Nw (.methodLinkNest RX5 64 yX0_begin RX5) U := h.2 (RX5, 64, yX0_begin) (List.mem_of_getElem? (i := 5) rfl)
theorem nm_RX5_86 {U : State} (h : nwA U) : va_Nw (.methodLinkNest RX5 86 yX1_addLetter RX5) U := h.2 (RX5, 86, yX1_addLetter) (List.mem_of_getElem? (i := 6) rfl)
theorem nm_RX5_90 {U : State} (h : nwA U) : va_Nw (.methodLinkNest RX5 90 yX1_canSpell RX5) U := h.2 (RX5, 90, yX1_canSpell) (List.mem_of_getElem? (i := 7) rfl)
theorem nm_RX5_98 {U : State} (h : nwA U) : va_Nw (.methodLinkNest RX5 98 yX1_hasRow RX5) U := h.2 (RX5, 98, yX1_hasRow) (List.mem_of_getElem? (i := 8) rfl)
theorem nm_RX5_103 {U : State} (h : nwA U) : va_Nw (.methodLinkNest RX5 103 yX1_addLine RX5) U := h.2 (RX5, 103, yX1_addLine) (List.mem_of_getElem? (i := 9) rfl)
theorem nm_RX5_113 {U : State} (h : nwA U) : va_Nw (.methodLinkNest RX5 113 yX0_faceOf RX5) U := h.2 (RX5, 113, yX0_faceOf) (List.mem_of_getElem? (i := 10) rfl)
theorem nm_RX5_116 {U : State} (h : nwA U) : va_Nw (.methodLinkNest RX5 116 yX0_fix RX5) U := h.2 (RX5, 116, yX0_fix) (List.mem_of_getElem? (i := 11) rfl)
theorem nm_RX5_131 {U : State} (h : nwA U) : va_Nw (.methodLinkNest RX5 131 yX0_renewColumn RX5) U := h.2 (RX5, 131, yX0_renewColumn) (List.mem_of_getElem? (i := 12) rfl)
theorem nm_RX5_202 {U : State} (h : nwA U) : va_Nw (.methodLinkNest RX5 202 yX0_stuckFaceOf RX5) U := h.2 (RX5, 202, yX0_stuckFaceOf) (List.mem_of_getElem? (i := 13) rfl)
theorem nm_RX5_218 {U : State} (h : nwA U) : va_Nw (.methodLinkNest RX5 218 yX2_setOf RX5) U := h.2 (RX5, 218, yX2_setOf) (List.mem_of_getElem? (i := 14) rfl)
theorem nm_RX5_250 {U : State} (h : nwA U) : va_Nw (.methodLinkNest RX5 250 yX1_placed RX5) U := h.2 (RX5, 250, yX1_placed) (List.mem_of_getElem? (i := 15) rfl)
theorem nm_RX5_267 {U : State} (h : nwA U) : va_Nw (.methodLinkNest RX5 267 yX0_isTrue RX5) U := h.2 (RX5, 267, yX0_isTrue) (List.mem_of_getElem? (i := 16) rfl)
theorem nm_RX5_271 {U : State} (h : nwA U) : va_Nw (.methodLinkNest RX5 271 yX3_isTrue RX5) U := h.2 (RX5, 271, yX3_isTrue) (List.mem_of_getElem? (i := 17) rfl)
theorem nm_RX5_321 {U : State} (h : nwA U) : va_Nw (.methodLinkNest RX5 321 yX2_flips RX5) U := h.2 (RX5, 321, yX2_flips) (List.mem_of_getElem? (i := 18) rfl)
theorem nm_RX5_332 {U : State} (h : nwA U) : va_Nw (.methodLinkNest RX5 332 yX0_allFlips RX5) U := h.2 (RX5, 332, yX0_allFlips) (List.mem_of_getElem? (i := 19) rfl)
theorem nm_RX5_338 {U : State} (h : nwA U) : va_Nw (.methodLinkNest RX5 338 yX4_fact RX5) U := h.2 (RX5, 338, yX4_fact) (List.mem_of_getElem? (i := 20) rfl)
theorem nm_RX5_341 {U : State} (h : nwA U) : va_Nw (.methodLinkNest RX5 341 yX3_fact RX5) U := h.2 (RX5, 341, yX3_fact) (List.mem_of_getElem? (i := 21) rfl)
theorem nm_RX5_351 {U : State} (h : nwA U) : va_Nw (.methodLinkNest RX5 351 yX0_withStuck RX5) U := h.2 (RX5, 351, yX0_withStuck) (List.mem_of_getElem? (i := 22) rfl)
theorem nm_RX5_358 {U : State} (h : nwA U) : va_Nw (.methodLinkNest RX5 358 yX0_turnTo RX5) U := h.2 (RX5, 358, yX0_turnTo) (List.mem_of_getElem? (i := 23) rfl)
theorem nm_RX5_362 {U : State} (h : nwA U) : va_Nw (.methodLinkNest RX5 362 yX2_giveUp RX5) U := h.2 (RX5, 362, yX2_giveUp) (List.mem_of_getElem? (i := 24) rfl)
theorem nm_RX5_365 {U : State} (h : nwA U) : va_Nw (.methodLinkNest RX5 365 yX2_begin RX5) U := h.2 (RX5, 365, yX2_begin) (List.mem_of_getElem? (i := 25) rfl)
theorem nm_RX5_371 {U : State} (h : nwA U) : va_Nw (.methodLinkNest RX5 371 yX2_choose RX5) U := h.2 (RX5, 371, yX2_choose) (List.mem_of_getElem? (i := 26) rfl)
theorem nm_RX5_374 {U : State} (h : nwA U) : va_Nw (.methodLinkNest RX5 374 yX2_forbid RX5) U := h.2 (RX5, 374, yX2_forbid) (List.mem_of_getElem? (i := 27) rfl)
theorem nm_RX5_377 {U : State} (h : nwA U) : va_Nw (.methodLinkNest RX5 377 yX2_pictureBehind RX5) U := h.2 (RX5, 377, yX2_pictureBehind) (List.mem_of_getElem? (i := 28) rfl)
theorem nm_RX0_32 {U : State} (h : nwA U) : va_Nw (.methodLinkNest RX0 32 yX5_dotIn RX5) U := h.2 (RX0, 32, yX5_dotIn) (List.mem_of_getElem? (i := 29) rfl)
theorem nm_RX0_44 {U : State} (h : nwA U) : va_Nw (.methodLinkNest RX0 44 yX5_bitOf RX5) U := h.2 (RX0, 44, yX5_bitOf) (List.mem_of_getElem? (i := 30) rfl)
theorem nm_RX0_48 {U : State} (h : nwA U) : va_Nw (.methodLinkNest RX0 48 yX5_put RX5) U := h.2 (RX0, 48, yX5_put) (List.mem_of_getElem? (i := 31) rfl)
theorem nm_RX0_52 {U : State} (h : nwA U) : va_Nw (.methodLinkNest RX0 52 yX5_at RX5) U := h.2 (RX0, 52, yX5_at) (List.mem_of_getElem? (i := 32) rfl)
theorem nm_RX0_56 {U : State} (h : nwA U) : va_Nw (.methodLinkNest RX0 56 yX5_setIn RX5) U := h.2 (RX0, 56, yX5_setIn) (List.mem_of_getElem? (i := 33) rfl)
theorem nm_RX1_32 {U : State} (h : nwA U) : va_Nw (.methodLinkNest RX1 32 yX5_put RX5) U := h.2 (RX1, 32, yX5_put) (List.mem_of_getElem? (i := 34) rfl)
theorem nm_RX1_39 {U : State} (h : nwA U) : va_Nw (.methodLinkNest RX1 39 yX5_at RX5) U := h.2 (RX1, 39, yX5_at) (List.mem_of_getElem? (i := 35) rfl)
theorem nm_RX1_47 {U : State} (h : nwA U) : va_Nw (.methodLinkNest RX1 47 yX5_put_ RX5) U := h.2 (RX1, 47, yX5_put_) (List.mem_of_getElem? (i := 36) rfl)
theorem nm_RX1_50 {U : State} (h : nwA U) : va_Nw (.methodLinkNest RX1 50 yX5_bitOf RX5) U := h.2 (RX1, 50, yX5_bitOf) (List.mem_of_getElem? (i := 37) rfl)
theorem nm_RX2_38 {U : State} (h : nwA U) : va_Nw (.methodLinkNest RX2 38 yX5_setIn RX5) U := h.2 (RX2, 38, yX5_setIn) (List.mem_of_getElem? (i := 38) rfl)
theorem nm_RX2_51 {U : State} (h : nwA U) : va_Nw (.methodLinkNest RX2 51 yX5_at RX5) U := h.2 (RX2, 51, yX5_at) (List.mem_of_getElem? (i := 39) rfl)
theorem nm_RX2_55 {U : State} (h : nwA U) : va_Nw (.methodLinkNest RX2 55 yX5_put RX5) U := h.2 (RX2, 55, yX5_put) (List.mem_of_getElem? (i := 40) rfl)
theorem nm_RX2_76 {U : State} (h : nwA U) : va_Nw (.methodLinkNest RX2 76 yX5_bitOf RX5) U := h.2 (RX2, 76, yX5_bitOf) (List.mem_of_getElem? (i := 41) rfl)
abbrev wBd (b0 b1 b2 : Nat) (cI : ClassId) (B : q_Bd) : va_W := [(b0, .inr (0, [.ref b1, .ref b2, .int B.2.2.1, .long B.2.2.2.1, .long B.2.2.2.2.1, .long B.2.2.2.2.2])), (b1, .inl (cI, 40, .inl B.1)), (b2, .inl (cI, 8, .inl B.2.1))]
abbrev wBk (k0 k1 k2 k3 k4 k5 : Nat) (cI cJ : ClassId) (K : q_Bk) : va_W := [(k0, .inr (1, [.ref k1, .ref k2, .ref k3, .ref k4, .ref k5, .int K.2.2.2.2.2.1, .int K.2.2.2.2.2.2])), (k1, .inl (cI, 7, .inl K.1)), (k2, .inl (cI, 7, .inl K.2.1)), (k3, .inl (cI, 8, .inl K.2.2.1)), (k4, .inl (cI, 8, .inl K.2.2.2.1)), (k5, .inl (cJ, 8, .inr (.inl K.2.2.2.2.1)))]
abbrev wPl (n0 n1 n2 n3 : Nat) (cI : ClassId) (N : q_Pl) : va_W := [(n0, .inr (2, [.ref n1, .ref n2, .ref n3, .long N.2.2.2.1, .long N.2.2.2.2.1, .int N.2.2.2.2.2.1, .int N.2.2.2.2.2.2.1, .int N.2.2.2.2.2.2.2])), (n1, .inl (cI, 256, .inl N.1)), (n2, .inl (cI, 256, .inl N.2.1)), (n3, .inl (cI, 8, .inl N.2.2.1))]
abbrev wWi (i0 : Nat) (I : q_Wi) : va_W := [(i0, .inr (4, [.int I.1, .int I.2.1, .int I.2.2.1, .int I.2.2.2.1, .int I.2.2.2.2]))]
abbrev wRt (r0 r1 r2 : Nat) (cI : ClassId) (T : q_Rt) : va_W := [(r0, .inr (3, [.ref r1, .ref r2, .int T.2.2.1, .int T.2.2.2.1, .int T.2.2.2.2])), (r1, .inl (cI, 6, .inl T.1)), (r2, .inl (cI, 6, .inl T.2.1))]
abbrev wSg (a : Nat → Nat) (cI cJ : ClassId) (F : q_Fl) (B : q_Bd) (K : q_Bk) (N : q_Pl) (I : q_Wi) (T : q_Rt) : va_W := [(a 0, .inr (5, [.ref (a 1), .ref (a 4), .ref (a 10), .ref (a 14), .ref (a 15), .int F.1, .int F.2.1, .int F.2.2.1, .int F.2.2.2])), (a 1, .inr (0, [.ref (a 2), .ref (a 3), .int B.2.2.1, .long B.2.2.2.1, .long B.2.2.2.2.1, .long B.2.2.2.2.2])), (a 2, .inl (cI, 40, .inl B.1)), (a 3, .inl (cI, 8, .inl B.2.1)), (a 4, .inr (1, [.ref (a 5), .ref (a 6), .ref (a 7), .ref (a 8), .ref (a 9), .int K.2.2.2.2.2.1, .int K.2.2.2.2.2.2])), (a 5, .inl (cI, 7, .inl K.1)), (a 6, .inl (cI, 7, .inl K.2.1)), (a 7, .inl (cI, 8, .inl K.2.2.1)), (a 8, .inl (cI, 8, .inl K.2.2.2.1)), (a 9, .inl (cJ, 8, .inr (.inl K.2.2.2.2.1))), (a 10, .inr (2, [.ref (a 11), .ref (a 12), .ref (a 13), .long N.2.2.2.1, .long N.2.2.2.2.1, .int N.2.2.2.2.2.1, .int N.2.2.2.2.2.2.1, .int N.2.2.2.2.2.2.2])), (a 11, .inl (cI, 256, .inl N.1)), (a 12, .inl (cI, 256, .inl N.2.1)), (a 13, .inl (cI, 8, .inl N.2.2.1)), (a 14, .inr (4, [.int I.1, .int I.2.1, .int I.2.2.1, .int I.2.2.2.1, .int I.2.2.2.2])), (a 15, .inr (3, [.ref (a 16), .ref (a 17), .int T.2.2.1, .int T.2.2.2.1, .int T.2.2.2.2])), (a 16, .inl (cI, 6, .inl T.1)), (a 17, .inl (cI, 6, .inl T.2.1))]
abbrev q_ty (cI cJ : ClassId) : List (ClassId × FieldType) := [(cI, .int), (cJ, .long)]
def q_B (D : va_G) (cl : List vw_C) (ws : va_W) (tys : List (ClassId × FieldType)) : State → Prop := fun U => va_P D cl ws U.heap ∧ va_K D cl tys U ∧ nwA U
theorem q_Bblind {av : List Value} {D : va_G} {cl : List vw_C} {ws : va_W} {tys : List (ClassId × FieldType)} : FrameBlind (va_Pc av (q_B D cl ws tys)) := fun a U g mk q => ⟨q.1, q.2.1, va_K.moved (u := U) (U := U.calling g mk a) (Vm.Alike.refl U.vm) q.2.2.1, q.2.2.2.calling⟩
theorem q_Bpre {av : List Value} {D : va_G} {cl : List vw_C} {ws : va_W} {tys : List (ClassId × FieldType)} {s : State} {H : Heap} (hP : va_P D cl ws H) (hK : va_K D cl tys s) (hn : nwA s) : ∀ U : State, U.heap = H → s.WarmedH U.vm → va_Pc av (q_B D cl ws tys) av.toArray U := fun U hU hW => ⟨rfl, by rw [hU]; exact hP, va_K.moved hW.alike hK, hn.warm hW⟩
/-- what a method that writes starts from, and ends in -/
def q_W (D : va_G) (cl : List vw_C) (ws : va_W) (tys : List (ClassId × FieldType)) (sz : Nat) : State → Prop := fun U => U.heap.size = sz ∧ va_P D cl ws U.heap ∧ va_K D cl tys U ∧ nwA U ∧ va_D (fun _ => True) ws
def q_E (D : va_G) (cl : List vw_C) (ws : va_W) (tys : List (ClassId × FieldType)) (A : Nat → Prop) (t : State) : Prop := va_P D cl ws t.heap ∧ va_K D cl tys t ∧ va_D A ws
theorem q_Wblind {av : List Value} {D : va_G} {cl : List vw_C} {ws : va_W} {tys : List (ClassId × FieldType)} {sz : Nat} : FrameBlind (va_Pc av (q_W D cl ws tys sz)) := fun a U g mk q => ⟨q.1, q.2.1, q.2.2.1, va_K.moved (u := U) (U := U.calling g mk a) (Vm.Alike.refl U.vm) q.2.2.2.1, q.2.2.2.2.1.calling, q.2.2.2.2.2⟩
theorem q_Wpre {av : List Value} {D : va_G} {cl : List vw_C} {ws : va_W} {tys : List (ClassId × FieldType)} {s : State} {H : Heap} {A : Nat → Prop} (hP : va_P D cl ws H) (hK : va_K D cl tys s) (hn : nwA s) (hD : va_D A ws) : ∀ U : State, U.heap = H → s.WarmedH U.vm → va_Pc av (q_W D cl ws tys H.size) av.toArray U := fun U hU hW => ⟨rfl, by rw [hU], by rw [hU]; exact hP, va_K.moved hW.alike hK, hn.warm hW, hD.weaken (fun _ _ _ _ => trivial)⟩
section QC
variable {p : Program} {l : Launch} {e : Env} {R : Room} {s : State} {m : MethodId} {args : Array Value} {below : List Frame} {meth : Method} {c : Code} {H : Heap} {locs : List Loc} {cells slots : Nat} {Q : State → Prop}
variable {y : MethodName} {bytes cc : ByteArray} {maxL nL n index pc : Nat} {ret : Option FieldType} {ws : List Cond} {rm : Room} {Ts : List Cond} {own C host : String} {b : Nat} {As rest : List Value} {ls : Array Slot} {st0 : List Value} {r : Value}
variable {D : va_G} {cl : List vw_C} {wc : va_W} {tys : List (ClassId × FieldType)}
theorem q_rV (S : CallFix p m c cc nL s args Ts own) (hM : Met l y ws rm (va_Pc (.ref b :: As) (q_B D cl wc tys)) (k2_QcV r) 0 0 (fun _ => False)) (cw : CallW R s args own C index y bytes maxL ret ws rm 0 0 n) (hK : va_K D cl tys s) (hn : nwA s) (hP : va_P D cl wc H)
    {ci : Nat} {F : u_T} {N : Nat} {fs : List Value} (hc : cl[ci]? = some (C, F, N)) (he : wc[0]? = some (b, .inr (ci, fs))) (hlen : As.length = n) (hsize : ls.size = nL) (hst : st0 = As.reverse ++ .ref b :: rest) (hW : (rest.map fun v => v.category).sum ≤ 8) (hdg : decode cc pc = .ok (.invokevirtual index, 3)) (hf : cells ≤ R.cells ∧ slots ≤ R.slots)
    (kk : W p l e R s m args below meth c H locs cells slots Q (F0 m (pc + 3) ls (r :: rest))) : W p l e R s m args below meth c H locs cells slots Q (F0 m pc ls st0) :=
  W.callV (va_Run.run (va_runV (As := As) (rest := rest) (g := F0 m pc ls st0) S hM cw ⟨q_Bblind, va_recv hK hP hc he, q_Bpre hP hK hn⟩ rfl hlen hsize hst (lv_room hW) hdg hf)) kk
theorem q_rVN (S : CallFix p m c cc nL s args Ts own) (hM : Met l y ws rm (va_Pc (.ref b :: As) (q_B D cl wc tys)) (k2_QcV r) 0 0 (fun _ => False)) (cw : va_CN R s args own index y host bytes maxL ret ws rm 0 0 n ∧ (Cond.instanceMethod y).before args s = true ∧ (Cond.selects C y y).before args s = true) (hK : va_K D cl tys s) (hn : nwA s) (hP : va_P D cl wc H)
    {ci : Nat} {F : u_T} {N : Nat} {fs : List Value} (hc : cl[ci]? = some (C, F, N)) (he : wc[0]? = some (b, .inr (ci, fs))) (hlen : As.length = n) (hsize : ls.size = nL) (hst : st0 = As.reverse ++ .ref b :: rest) (hW : (rest.map fun v => v.category).sum ≤ 8) (hdg : decode cc pc = .ok (.invokevirtual index, 3)) (hf : cells ≤ R.cells ∧ slots ≤ R.slots)
    (kk : W p l e R s m args below meth c H locs cells slots Q (F0 m (pc + 3) ls (r :: rest))) : W p l e R s m args below meth c H locs cells slots Q (F0 m pc ls st0) :=
  W.callV (va_Run.run (va_runVN (As := As) (rest := rest) (g := F0 m pc ls st0) S hM cw ⟨q_Bblind, va_recv hK hP hc he, q_Bpre hP hK hn⟩ rfl hlen hsize hst (lv_room hW) hdg hf)) kk
theorem q_rS (S : CallFix p m c cc nL s args Ts own) (hM : Met l y ws rm (va_Pc As (q_B D cl wc tys)) (k2_QcV r) 0 0 (fun _ => False)) (cw : CallB R s args own index y bytes maxL ret ws rm 0 0 n ∧ (Cond.static y).before args s = true) (hK : va_K D cl tys s) (hn : nwA s) (hP : va_P D cl wc H)
    (hlen : As.length = n) (hsize : ls.size = nL) (hst : st0 = As.reverse ++ rest) (hW : (rest.map fun v => v.category).sum ≤ 8) (hdg : decode cc pc = .ok (.invokestatic index, 3)) (hf : cells ≤ R.cells ∧ slots ≤ R.slots)
    (kk : W p l e R s m args below meth c H locs cells slots Q (F0 m (pc + 3) ls (r :: rest))) : W p l e R s m args below meth c H locs cells slots Q (F0 m pc ls st0) :=
  W.callV (va_Run.run (va_runS (As := As) (rest := rest) (g := F0 m pc ls st0) S hM cw ⟨q_Bblind, q_Bpre hP hK hn⟩ rfl hlen hsize hst (lv_room hW) hdg hf)) kk
theorem q_rSN (S : CallFix p m c cc nL s args Ts own) (hM : Met l y ws rm (va_Pc As (q_B D cl wc tys)) (k2_QcV r) 0 0 (fun _ => False)) (cw : va_CN R s args own index y host bytes maxL ret ws rm 0 0 n ∧ (Cond.static y).before args s = true ∧ True) (hK : va_K D cl tys s) (hn : nwA s) (hP : va_P D cl wc H)
    (hlen : As.length = n) (hsize : ls.size = nL) (hst : st0 = As.reverse ++ rest) (hW : (rest.map fun v => v.category).sum ≤ 8) (hdg : decode cc pc = .ok (.invokestatic index, 3)) (hf : cells ≤ R.cells ∧ slots ≤ R.slots)
    (kk : W p l e R s m args below meth c H locs cells slots Q (F0 m (pc + 3) ls (r :: rest))) : W p l e R s m args below meth c H locs cells slots Q (F0 m pc ls st0) :=
  W.callV (va_Run.run (va_runSN (As := As) (rest := rest) (g := F0 m pc ls st0) S hM cw ⟨q_Bblind, q_Bpre hP hK hn⟩ rfl hlen hsize hst (lv_room hW) hdg hf)) kk
theorem q_vV (S : CallFix p m c cc nL s args Ts own) (hM : Met l y ws rm (va_Pc (.ref b :: As) (q_B D cl wc tys)) (va_Sv (fun _ => True)) 0 0 (fun _ => False)) (cw : CallW R s args own C index y bytes maxL ret ws rm 0 0 n) (hK : va_K D cl tys s) (hn : nwA s) (hP : va_P D cl wc H)
    {ci : Nat} {F : u_T} {N : Nat} {fs : List Value} (hc : cl[ci]? = some (C, F, N)) (he : wc[0]? = some (b, .inr (ci, fs))) (hlen : As.length = n) (hsize : ls.size = nL) (hst : st0 = As.reverse ++ .ref b :: rest) (hW : (rest.map fun v => v.category).sum ≤ 8) (hdg : decode cc pc = .ok (.invokevirtual index, 3)) (hf : cells ≤ R.cells ∧ slots ≤ R.slots)
    (kk : W p l e R s m args below meth c H locs cells slots Q (F0 m (pc + 3) ls rest)) : W p l e R s m args below meth c H locs cells slots Q (F0 m pc ls st0) :=
  va_csv (va_Run.run (va_runV (As := As) (rest := rest) (g := F0 m pc ls st0) S hM cw ⟨q_Bblind, va_recv hK hP hc he, q_Bpre hP hK hn⟩ rfl hlen hsize hst (lv_room hW) hdg hf)) (fun _ => kk)
end QC
def q_let {α β : Type} (x : α) (k : α → β) : β := k x
theorem q_letE {α β : Type} {x y : α} {k : α → β} {r : β} (h : y = x) (hf : q_let x k = r) : k y = r := by subst h; exact hf
theorem q_in {i : Int32} {n : Nat} (h1 : ¬ i < 0) (h2 : ¬ nI n ≤ i) (hn : n < 2147483648) : vp_in i n := by
  obtain ⟨j, hj, rfl⟩ := nI_of h1
  exact vp_in_nI (Nat.lt_of_not_le fun h => h2 (nI_le h hj)) hn
theorem q_in2 {i : Int32} {n : Nat} (h1 : ¬ i < 0) (h2 : i < nI n) (hn : n < 2147483648) : vp_in i n := by
  obtain ⟨j, hj, rfl⟩ := nI_of h1
  exact vp_in_nI (Nat.lt_of_not_le fun h => nI_nlt h hj h2) hn
theorem q_lt0 {x : Int32} (h : 0 < x) : ¬ x < 0 := by rw [Int32.lt_iff_toInt_lt] at h ⊢; omega
theorem q_le0 {x : Int32} (h : 0 ≤ x) : ¬ x < 0 := by rw [Int32.le_iff_toInt_le] at h; rw [Int32.lt_iff_toInt_lt]; omega
theorem q_gt0 {x : Int32} (h : ¬ x ≤ 0) : ¬ x < 0 := by rw [Int32.le_iff_toInt_le] at h; rw [Int32.lt_iff_toInt_lt]; omega
/-- where an int lies in an array -/
def q_ix (i : Int32) (n : Nat) : Bool := decide (0 ≤ i.toInt ∧ i.toInt < n)
theorem q_ix_in {i : Int32} {n : Nat} (h : q_ix i n = true) : vp_in i n := vp_in_iff.mpr (of_decide_eq_true h)
/-- a number is given a name -/
theorem q_sw (x : Int32) (k : Int) (h : ¬ x = Int32.ofInt k) (hk : (Int32.ofInt k).toInt = k) : x.toInt ≠ k := fun e => h (Int32.toInt_inj.mp (by rw [hk]; exact e))
