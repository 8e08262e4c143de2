/-! the whole plan -/
theorem z_ch81 (d : q_IA) (pw : Int32) {ch : Nat} (hch : ch < 256) {V : q_IA} (h0 : V ch = 0) (hg : ∀ j, zsub j ch → j ≠ ch → zgood d pw ch V j) {st : Nat} (hst : st ≤ 8) :
    ∀ (r dn nth n : Nat), nth + r = st → V dn = nI r → zsub dn ch → r < n → ∃ pc dq : Nat → Nat, (∀ (pl : q_IA) (s g : Int64), ∃ x y pl', fl_X2_choose_81 n (nI dn) (nI nth) (V, d, pl, s, g, pw, nI ch, nI st) = some (x, y, (V, d, pl', s, g, pw, nI ch, nI st)) ∧ (∀ j, j < nth → pl' j = pl j) ∧ ∀ j, nth ≤ j → j < st → pl' j = nI (pc j)) ∧ dq nth = dn ∧ dq st = ch ∧ (∀ j, nth ≤ j → j ≤ st → V (dq j) = nI (st - j) ∧ zsub (dq j) ch) ∧ ∀ j, nth ≤ j → j < st → pc j ≠ 0 ∧ zsub (pc j) (zop ch (dq j)) ∧ dq (j + 1) = dq j ||| pc j := by
  have E : ∀ (pl : q_IA) (s g : Int64) (n : Nat) (x y : Int32), fl_X2_choose_81 (n + 1) x y (V, d, pl, s, g, pw, nI ch, nI st) = (if nI st ≤ y then some (x, y, (V, d, pl, s, g, pw, nI ch, nI st)) else ((f_X2_smallestFrom (V, d, pl, s, g, pw, nI ch, nI st) x).bind fun x_7 => fl_X2_choose_81 n (x ||| x_7) (y + 1) (V, d, f_X5_put 8 pl y x_7, s, g, pw, nI ch, nI st))) := fun _ _ _ _ _ _ => rfl
  intro r
  induction r with
  | zero =>
    intro dn nth n hr hV hs hn
    obtain ⟨n, rfl, -⟩ := z_suc hn
    obtain rfl : nth = st := by omega
    have e : dn = ch := by
      apply Classical.byContradiction
      intro hne
      rcases hg dn hs hne with h | ⟨q, set, h1, h2, -⟩
      · rw [hV] at h
        exact z_m1_ne (by omega) h
      · have h3 := zpcn_le ch
        rw [hV, nI_eq (by omega) (by omega)] at h1
        omega
    subst e
    refine ⟨fun _ => 0, fun _ => dn, fun pl s g => ⟨nI dn, nI nth, pl, ?_, fun _ _ => rfl, fun j h1 h2 => absurd h1 (by omega)⟩, rfl, rfl, fun j h1 h2 => ⟨?_, hs⟩, fun j h1 h2 => absurd h1 (by omega)⟩
    · rw [E]
      exact if_pos (nI_le (Nat.le_refl _) (by omega))
    · rw [hV, show nth - j = 0 by omega]
  | succ r ih =>
    intro dn nth n hr hV hs hn
    obtain ⟨n, rfl, hn2⟩ := z_suc hn
    have hdn : dn < 256 := Nat.lt_of_le_of_lt (zsub_le hs) hch
    have hne : dn ≠ ch := by
      intro e
      subst e
      rw [h0, show (0 : Int32) = nI 0 from rfl, nI_eq (by omega) (by omega)] at hV
      omega
    rcases hg dn hs hne with h | ⟨q, set0, h1, h2, h3, h4, h5, h6⟩
    · rw [hV] at h
      exact absurd h (z_m1_ne (by omega))
    · have h7 := zpcn_le ch
      have e : q = r := by
        rw [hV, nI_eq (by omega) (by omega)] at h1
        omega
      subst e
      obtain ⟨set, f1, f2, f3, f4⟩ := z_small V d pw hch hdn hV ⟨set0, h3, h4, h5, h6⟩
      obtain ⟨pc, dq, a1, a2, a3, a4, a5⟩ := ih (dn ||| set) (nth + 1) n (by omega) f4 (zor_sub hs (zop_sub hch f3).1) (by omega)
      refine ⟨fun j => if j = nth then set else pc j, fun j => if j = nth then dn else dq j, fun pl s g => ?_, if_pos rfl, ?_, fun j j1 j2 => ?_, fun j j1 j2 => ?_⟩
      · obtain ⟨x, y, pl', b1, b2, b3⟩ := a1 (upd pl nth (nI set)) s g
        refine ⟨x, y, pl', ?_, fun j hj => ?_, fun j j1 j2 => ?_⟩
        · rw [E]
          refine (if_neg (nI_ge (show nth < st by omega) (by omega))).trans ?_
          rw [f1]
          show fl_X2_choose_81 n (nI dn ||| nI set) (nI nth + 1) (V, d, f_X5_put 8 pl (nI nth) (nI set), s, g, pw, nI ch, nI st) = _
          rw [fa_or, nI_1, z_put (by omega) (by decide)]
          exact b1
        · rw [b2 j (by omega), pk_un (by omega)]
        · show pl' j = nI (if j = nth then set else pc j)
          by_cases q : j = nth
          · subst q
            rw [b2 j (by omega), pk_us, if_pos rfl]
          · rw [if_neg q]
            exact b3 j (by omega) j2
      · show (if st = nth then dn else dq st) = ch
        rw [if_neg (by omega)]
        exact a3
      · show V (if j = nth then dn else dq j) = _ ∧ zsub (if j = nth then dn else dq j) ch
        by_cases q : j = nth
        · subst q
          rw [if_pos rfl, hV, show st - j = q + 1 by omega]
          exact ⟨rfl, hs⟩
        · rw [if_neg q]
          exact a4 j (by omega) j2
      · show (if j = nth then set else pc j) ≠ 0 ∧ zsub (if j = nth then set else pc j) (zop ch (if j = nth then dn else dq j)) ∧ (if j + 1 = nth then dn else dq (j + 1)) = (if j = nth then dn else dq j) ||| (if j = nth then set else pc j)
        rw [if_neg (show ¬ j + 1 = nth by omega)]
        by_cases q : j = nth
        · subst q
          rw [if_pos rfl, if_pos rfl]
          exact ⟨f2, f3, a2⟩
        · rw [if_neg q, if_neg q]
          exact a5 j (by omega) j2
/-- the steps of a plan: st of them, pc j the set of the step j, dq j what is done ahead of it -/
def zsteps (ch : Nat) (sl : q_IA) (st : Nat) (pc dq : Nat → Nat) : Prop :=
  st ≤ zpcn ch ∧ (ch = 0 → st = 0) ∧ dq 0 = 0 ∧ dq st = ch ∧ (∀ j, j ≤ st → zsub (dq j) ch) ∧ (∀ j, j < st → pc j ≠ 0 ∧ zsub (pc j) (zop ch (dq j)) ∧ dq (j + 1) = dq j ||| pc j) ∧ ∀ j, 0 < j → j < st → sl (dq j) ≠ -1
theorem z_choose (sl d : q_IA) (pw : Int32) {ch : Nat} (hch : ch < 256) : ∃ (V : q_IA) (st : Int32) (pc dq : Nat → Nat), (∀ j, 256 ≤ j → V j = sl j) ∧ (∀ (pl : q_IA) (s g : Int64) (st0 : Int32), ∃ pl' : q_IA, f_X2_choose (sl, d, pl, s, g, pw, nI ch, st0) = some (V, d, pl', s, g, pw, nI ch, st) ∧ ∀ j, j < 8 → nI j < st → pl' j = nI (pc j)) ∧ ((st = -1 ∧ ch ≠ 0) ∨ ∃ q, st = nI q ∧ zsteps ch sl q pc dq) := by
  have I0 : zInv d pw ch (upd sl ch 0) ch (upd sl ch 0) := by
    refine ⟨fun _ _ => rfl, pk_us, fun _ _ => rfl, fun j h1 h2 h3 => ?_⟩
    have := zsub_le h2
    exact absurd (show j = ch by omega) h3
  obtain ⟨V, c1, c2⟩ := z_ch19 d pw hch (upd sl ch 0) ch 1000 (upd sl ch 0) (by omega) (Nat.le_refl _) I0
  obtain ⟨i1, i2, -, i4⟩ := c2
  have hz : zsub 0 ch := fun i hi => by
    rw [Nat.zero_testBit] at hi
    exact absurd hi (by decide)
  have hV0 : (V 0 = -1 ∧ ch ≠ 0) ∨ ∃ q, V 0 = nI q ∧ q ≤ zpcn ch ∧ (ch = 0 → q = 0) := by
    by_cases e : (0 : Nat) = ch
    · subst e
      exact Or.inr ⟨0, i2, Nat.zero_le _, fun _ => rfl⟩
    · rcases (i4 0 (Nat.zero_le _) hz e).1 with h | ⟨q, set, h1, h2, -⟩
      · exact Or.inl ⟨h, fun h => e h.symm⟩
      · exact Or.inr ⟨q + 1, h1, by omega, fun h => absurd h.symm e⟩
  have hV256 : ∀ j, 256 ≤ j → V j = sl j := fun j hj => by rw [i1 j hj, pk_un (by omega)]
  have first : ∀ (pl : q_IA) (s g : Int64) (st0 : Int32), ∃ x, fl_X2_choose_19 1000 (nI ch - 1) (f_X5_put 256 sl (nI ch) 0, d, pl, s, g, pw, nI ch, st0) = some (x, (V, d, pl, s, g, pw, nI ch, st0)) := by
    intro pl s g st0
    rw [z_put hch (by decide), Int32.sub_eq_add_neg]
    exact c1 pl s g st0
  have a0 : f_X5_at 256 V 0 = V 0 := z_at (k := 0) (by decide) (by decide)
  rcases hV0 with ⟨hm, hmc⟩ | ⟨q, hq, hq8, hq0⟩
  · refine ⟨V, -1, fun _ => 0, fun _ => 0, hV256, fun pl s g st0 => ⟨pl, ?_, fun j hj h => ?_⟩, Or.inl ⟨rfl, hmc⟩⟩
    · obtain ⟨x, hx⟩ := first pl s g st0
      unfold f_X2_choose
      refine Option.bind_eq_some_iff.mpr ⟨_, hx, ?_⟩
      show (((fl_X2_choose_81 1000 0 0 (V, d, pl, s, g, pw, nI ch, f_X5_at 256 V 0)).bind fun z_8 => some z_8.2.2)) = _
      rw [a0, hm]
      rfl
    · exfalso
      rw [Int32.lt_iff_toInt_lt, nI_toInt (by omega), show (-1 : Int32).toInt = -1 by decide] at h
      omega
  · have h8 := zpcn_le ch
    obtain ⟨pc, dq, p1, p2, p3, p4, p5⟩ := z_ch81 d pw hch i2 (fun j h1 h2 => (i4 j (Nat.zero_le _) h1 h2).1) (st := q) (by omega) q 0 0 1000 (by omega) hq hz (by omega)
    refine ⟨V, nI q, pc, dq, hV256, fun pl s g st0 => ?_, Or.inr ⟨q, rfl, hq8, hq0, p2, p3, fun j hj => (p4 j (Nat.zero_le _) hj).2, fun j hj => p5 j (Nat.zero_le _) hj, fun j j1 j2 => ?_⟩⟩
    · obtain ⟨x, hx⟩ := first pl s g st0
      obtain ⟨x2, y2, pl', b1, -, b3⟩ := p1 pl s g
      refine ⟨pl', ?_, fun j hj h => ?_⟩
      · unfold f_X2_choose
        refine Option.bind_eq_some_iff.mpr ⟨_, hx, ?_⟩
        show (((fl_X2_choose_81 1000 0 0 (V, d, pl, s, g, pw, nI ch, f_X5_at 256 V 0)).bind fun z_8 => some z_8.2.2)) = _
        rw [a0, hq]
        exact Option.bind_eq_some_iff.mpr ⟨_, b1, rfl⟩
      · rw [nI_ltI (by omega) (by omega)] at h
        exact b3 j (Nat.zero_le _) h
    · obtain ⟨v1, v2⟩ := p4 j (Nat.zero_le _) (by omega)
      have hne : dq j ≠ ch := by
        intro e
        rw [e, i2, show (0 : Int32) = nI 0 from rfl, nI_eq (by omega) (by omega)] at v1
        omega
      intro h
      have h2 := (i4 (dq j) (Nat.zero_le _) v2 hne).2 (by rw [pk_un hne]; exact h)
      rw [v1] at h2
      exact z_m1_ne (by omega) h2
/-! what a plan tells -/
/-- what can be seen of a planned change of the line l: st steps, fp flips, so j the set of the step j -/
def zobs (w m : Nat) (ln : Nat → Nat) (B : q_Bd) (K : q_Bk) (l : Nat) (st fp : Int32) (so : Nat → Int32) (goal : Int64) : Prop :=
  (st = -1 ∧ fp = -1 ∧ (∀ j, so j = -1) ∧ ∀ o, ln l + o ≤ w → f_X5_bestOffset B K (nI l) = some (nI o) → B.2.2.2.1 ≠ f_X5_goalAt B K (nI l) (nI o)) ∨ ∃ q o pc dq sl, st = nI q ∧ fp = nI (fb_ct (zb (B.2.2.2.1 ^^^ goal)) 64) ∧ ln l + o ≤ w ∧ f_X5_bestOffset B K (nI l) = some (nI o) ∧ goal = f_X5_goalAt B K (nI l) (nI o) ∧ zsteps (zch B.2.2.2.1 goal) sl q pc dq ∧ (∀ j, so j = if j < q then nI (pc j) else -1) ∧ ∀ k, k < m → k ≠ l → ¬ zsay w ln K B.2.2.2.1 k → ∀ o, ln k + o ≤ w → ∀ dn, zmix B.2.2.2.1 goal dn (f_X1_placed K (nI k) (nI o)) → sl dn = -1
theorem z_makePlan {F : q_Fl} {B : q_Bd} {K : q_Bk} {w m : Nat} {ln : Nat → Nat} (hB : B.2.2.1 = nI w) (hw : w ≤ 8) (hK : zK m ln K) {l : Nat} (hl : l < m) : ∃ (st fp : Int32) (so : Nat → Int32) (goal : Int64), zobs w m ln B K l st fp so goal ∧ ∀ N, zN N → ∃ R, f_X5_makePlan F B K N (nI l) = some R ∧ zN R ∧ R.2.2.2.2.2.2.2 = st ∧ f_X2_flips R = fp ∧ (∀ j, j < 2 ^ 31 → f_X2_setOf R (nI j) = so j) ∧ (st ≠ -1 → R.2.2.2.1 = B.2.2.2.1 ∧ R.2.2.2.2.1 = goal) := by
  rcases z_best hB hw hK hl with ⟨e, -⟩ | ⟨o, ho, e⟩
  · refine ⟨-1, -1, fun _ => -1, 0, Or.inl ⟨rfl, rfl, fun _ => rfl, fun o ho e2 => by
      rw [e] at e2
      exact absurd (Option.some.inj e2).symm (z_m1_ne (by omega))⟩, fun N hN => ⟨f_X2_giveUp N, ?_, hN, rfl, ?_, fun j hj => ?_, fun h => absurd rfl h⟩⟩
    · unfold f_X5_makePlan
      rw [e]
      rfl
    · unfold f_X2_flips f_X2_giveUp
      exact if_pos rfl
    · unfold f_X2_setOf f_X2_giveUp
      refine if_pos ?_
      show (-1 : Int32) ≤ nI j
      rw [Int32.le_iff_toInt_le, nI_toInt hj, show (-1 : Int32).toInt = -1 by decide]
      omega
  · generalize hgo : f_X5_goalAt B K (nI l) (nI o) = goal
    obtain ⟨D, d1, d2⟩ := z_plBegin B.2.2.2.1 goal F.1
    obtain ⟨sl, s1, s2, s3⟩ := z_forbidAll hB hw hK hl (fun _ => 0) B.2.2.2.1 goal
    obtain ⟨V, st, pc, dq, v1, v2, v3⟩ := z_choose sl D F.1 (zch_lt B.2.2.2.1 goal)
    have run : ∀ N, zN N → ∃ pl' : q_IA, f_X5_makePlan F B K N (nI l) = some (V, D, pl', B.2.2.2.1, goal, F.1, nI (zch B.2.2.2.1 goal), st) ∧ ∀ j, j < 8 → nI j < st → pl' j = nI (pc j) := by
      intro N hN
      obtain ⟨x, hx⟩ := s1 D N.2.2.1 F.1 (nI (zch B.2.2.2.1 goal)) N.2.2.2.2.2.2.2
      obtain ⟨pl', h1, h2⟩ := v2 N.2.2.1 B.2.2.2.1 goal N.2.2.2.2.2.2.2
      refine ⟨pl', ?_, h2⟩
      unfold f_X5_makePlan
      rw [e]
      show (if nI o = (-1) then some (f_X2_giveUp N) else ((f_X2_begin N B.2.2.2.1 (f_X5_goalAt B K (nI l) (nI o)) F.1).bind fun x_3 => ((fl_X5_makePlan_45 (nI l) B K 1000 0 x_3).bind fun z_9 => ((f_X2_choose z_9.2).bind fun x_10 => some x_10)))) = _
      rw [if_neg (z_m1_ne (by omega)), hgo, d2 N hN]
      show ((fl_X5_makePlan_45 (nI l) B K 1000 0 (fun _ => 0, D, N.2.2.1, B.2.2.2.1, goal, F.1, nI (zch B.2.2.2.1 goal), N.2.2.2.2.2.2.2)).bind fun z_9 => ((f_X2_choose z_9.2).bind fun x_10 => some x_10)) = _
      rw [hx]
      show ((f_X2_choose (sl, D, N.2.2.1, B.2.2.2.1, goal, F.1, nI (zch B.2.2.2.1 goal), N.2.2.2.2.2.2.2)).bind fun x_10 => some x_10) = _
      rw [h1]
      rfl
    have hV : ∀ j, 256 ≤ j → V j = 0 := by
      intro j hj
      rw [v1 j hj]
      rcases s2 j with h | ⟨-, h⟩
      · exact h
      · omega
    rcases v3 with ⟨rfl, hcn⟩ | ⟨q, rfl, hq⟩
    · refine ⟨-1, -1, fun _ => -1, goal, Or.inl ⟨rfl, rfl, fun _ => rfl, fun o2 ho2 e2 hpg => hcn (by
        rw [e] at e2
        have e3 := (nI_eq (by omega) (by omega)).mp (Option.some.inj e2)
        subst e3
        rw [hgo] at hpg
        rw [← hpg]
        exact zch_same _)⟩, fun N hN => ?_⟩
      obtain ⟨pl', h1, -⟩ := run N hN
      refine ⟨_, h1, ⟨hV, d1⟩, rfl, if_pos rfl, fun j hj => ?_, fun h => absurd rfl h⟩
      unfold f_X2_setOf
      refine if_pos ?_
      show (-1 : Int32) ≤ nI j
      rw [Int32.le_iff_toInt_le, nI_toInt hj, show (-1 : Int32).toInt = -1 by decide]
      omega
    · have h8 := zpcn_le (zch B.2.2.2.1 goal)
      have hq8 := hq.1
      refine ⟨nI q, nI (fb_ct (zb (B.2.2.2.1 ^^^ goal)) 64), fun j => if j < q then nI (pc j) else -1, goal, Or.inr ⟨q, o, pc, dq, sl, rfl, rfl, ho, e, hgo.symm, hq, fun _ => rfl, s3⟩, fun N hN => ?_⟩
      obtain ⟨pl', h1, h2⟩ := run N hN
      refine ⟨_, h1, ⟨hV, d1⟩, rfl, ?_, fun j hj => ?_, fun _ => ⟨rfl, rfl⟩⟩
      · unfold f_X2_flips
        refine (if_neg (z_m1_ne (by omega))).trans ?_
        exact zpc _
      · unfold f_X2_setOf
        show (if nI q ≤ nI j then (-1 : Int32) else f_X5_at 8 pl' (nI j)) = if j < q then nI (pc j) else -1
        by_cases h : j < q
        · rw [if_neg (nI_ge h (by omega)), if_pos h, z_at (by omega) (by decide)]
          exact h2 j (by omega) (nI_lt h (by omega))
        · rw [if_pos (nI_le (by omega) (by omega)), if_neg h]
