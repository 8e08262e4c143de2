abbrev q_F0 : q_Fl := (10, 3, 0, -1)
abbrev q_B0 : q_Bd := ((fun _ => 0), (fun _ => 0), 8, 0, 0, 0)
abbrev q_K0 : q_Bk := ((fun _ => 0), (fun _ => 0), (fun _ => 0), (fun _ => 0), (fun _ => 0), 0, 0)
abbrev q_N0 : q_Pl := ((fun _ => 0), (fun _ => 0), (fun _ => 0), 0, 0, 0, 0, -1)
abbrev q_I0 : q_Wi := (0, 0, 0, 0, 7)
abbrev q_T0 : q_Rt := ((fun _ => 0), (fun _ => 0), 0, 0, 0)
abbrev q_ty3 (cI cJ cZ : ClassId) : List (ClassId × FieldType) := [(cI, .int), (cJ, .long), (cZ, .boolean)]
theorem q_sameI3 {D : va_G} {cl : List vw_C} {cI cJ cZ cA : ClassId} {s : State} (h : va_K D cl (q_ty3 cI cJ cZ ++ [(cA, .int)]) s) : cI = cA := Option.some.inj ((h.2 0 _ rfl).2.symm.trans (h.2 3 _ rfl).2)
theorem q_sameZ3 {D : va_G} {cl : List vw_C} {cI cJ cZ cA : ClassId} {s : State} (h : va_K D cl (q_ty3 cI cJ cZ ++ [(cA, .boolean)]) s) : cZ = cA := Option.some.inj ((h.2 2 _ rfl).2.symm.trans (h.2 3 _ rfl).2)
theorem q_ixlt {i : Int32} {n : Nat} (h : q_ix i n = true) : (¬ i < 0) ∧ i.toNatClampNeg < n := by
  have h1 : vp_in i n := q_ix_in h
  exact ⟨fun q => h1 (Or.inl q), Nat.lt_of_not_le fun q => h1 (Or.inr q)⟩
theorem q_bool_loop {F : q_Fl} {B : q_Bd} {K : q_Bk} : ∀ (n : Nat) (i : Int32) (N : q_Pl) (r : Int32 × q_Pl), fl_X5_isSound_2 F B K n i N = some (.inl r) → r.1 = 0 := by
  intro n
  induction n with
  | zero =>
    intro i N r h
    rw [fl_X5_isSound_2] at h
    cases h
  | succ n ih =>
    intro i N r h
    rw [fl_X5_isSound_2] at h
    by_cases c : K.2.2.2.2.2.2 ≤ i
    · rw [if_pos c] at h
      cases h
    · rw [if_neg c] at h
      obtain ⟨x, -, h⟩ := Option.bind_eq_some_iff.mp h
      by_cases c2 : x.1 = 0
      · rw [if_pos c2] at h
        cases h
        rfl
      · rw [if_neg c2] at h
        exact ih _ _ _ h
theorem q_bool01 {F : q_Fl} {B : q_Bd} {K : q_Bk} {N : q_Pl} {T : q_Rt} {x : Int32 × q_Pl} (h : f_X5_isSound F B K N T = some x) : x.1 = 0 ∨ x.1 = 1 := by
  unfold f_X5_isSound at h
  obtain ⟨z, hz, h⟩ := Option.bind_eq_some_iff.mp h
  rcases z with r | y
  · replace h : some r = some x := h
    cases h
    exact Or.inl (q_bool_loop _ _ _ _ hz)
  · simp only [Sum.elim_inr] at h
    obtain ⟨w, -, h⟩ := Option.bind_eq_some_iff.mp h
    by_cases c : w = 0
    · rw [if_pos c] at h
      cases h
      exact Or.inl rfl
    · rw [if_neg c] at h
      by_cases c2 : f_X3_isTrue T = 0
      · rw [if_pos c2] at h
        cases h
        exact Or.inl rfl
      · rw [if_neg c2] at h
        cases h
        exact Or.inr rfl
theorem q_bool_isSound {F : q_Fl} {B : q_Bd} {K : q_Bk} {N : q_Pl} {T : q_Rt} {x : Int32 × q_Pl} (h : f_X5_isSound F B K N T = some x) : narrow .boolean (.int x.1) = .int x.1 := by
  rcases q_bool01 h with e | e <;> rw [e] <;> rfl
