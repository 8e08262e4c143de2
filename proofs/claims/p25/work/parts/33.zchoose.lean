/-! a plan is chosen -/
def zcb (d : q_IA) (pw x : Int32) : Int32 := f_X2_canBeOneStep (d, d, d, 0, 0, pw, 0, 0) x
theorem z_fewest (V d : q_IA) (pw : Int32) {ch dn : Nat} (hch : ch < 256) (hdn : dn < 256) : ∃ v, (∀ (pl : q_IA) (s g : Int64) (st : Int32), f_X2_fewestFrom (V, d, pl, s, g, pw, nI ch, st) (nI dn) = some v) ∧ (v = -1 ∨ ∃ set, set ≠ 0 ∧ zsub set (zop ch dn) ∧ V (dn ||| set) ≠ -1 ∧ v = V (dn ||| set) + 1 ∧ zcb d pw (nI set) ≠ 0) := by
  have E : ∀ (pl : q_IA) (s g : Int64) (st : Int32) (n : Nat) (fe i : Int32), fl_X2_fewestFrom_14 (nI dn) (V, d, pl, s, g, pw, nI ch, st) (n + 1) fe i = (if i ≤ 0 then some (fe, i) else (if f_X5_at 256 V (nI dn ||| i) = (-1) then fl_X2_fewestFrom_14 (nI dn) (V, d, pl, s, g, pw, nI ch, st) n fe ((i - 1) &&& (nI ch &&& (nI dn ^^^ (-1)))) else (if fe = (-1) then (if zcb d pw i = 0 then fl_X2_fewestFrom_14 (nI dn) (V, d, pl, s, g, pw, nI ch, st) n fe ((i - 1) &&& (nI ch &&& (nI dn ^^^ (-1)))) else fl_X2_fewestFrom_14 (nI dn) (V, d, pl, s, g, pw, nI ch, st) n (f_X5_at 256 V (nI dn ||| i) + 1) ((i - 1) &&& (nI ch &&& (nI dn ^^^ (-1))))) else (if fe ≤ f_X5_at 256 V (nI dn ||| i) + 1 then fl_X2_fewestFrom_14 (nI dn) (V, d, pl, s, g, pw, nI ch, st) n fe ((i - 1) &&& (nI ch &&& (nI dn ^^^ (-1)))) else (if zcb d pw i = 0 then fl_X2_fewestFrom_14 (nI dn) (V, d, pl, s, g, pw, nI ch, st) n fe ((i - 1) &&& (nI ch &&& (nI dn ^^^ (-1)))) else fl_X2_fewestFrom_14 (nI dn) (V, d, pl, s, g, pw, nI ch, st) n (f_X5_at 256 V (nI dn ||| i) + 1) ((i - 1) &&& (nI ch &&& (nI dn ^^^ (-1))))))))) := fun _ _ _ _ _ _ _ => rfl
  have L : ∀ (n set : Nat) (fe : Int32), set < n → set < 256 → zsub set (zop ch dn) → (fe = -1 ∨ ∃ set, set ≠ 0 ∧ zsub set (zop ch dn) ∧ V (dn ||| set) ≠ -1 ∧ fe = V (dn ||| set) + 1 ∧ zcb d pw (nI set) ≠ 0) → ∃ v, (∀ (pl : q_IA) (s g : Int64) (st : Int32), ∃ x, fl_X2_fewestFrom_14 (nI dn) (V, d, pl, s, g, pw, nI ch, st) n fe (nI set) = some (v, x)) ∧ (v = -1 ∨ ∃ set, set ≠ 0 ∧ zsub set (zop ch dn) ∧ V (dn ||| set) ≠ -1 ∧ v = V (dn ||| set) + 1 ∧ zcb d pw (nI set) ≠ 0) := by
    intro n
    induction n with
    | zero => intro set fe h; exact absurd h (Nat.not_lt_zero _)
    | succ n ih =>
      intro set fe hn h8 hs hf
      by_cases q0 : set = 0
      · subst q0
        refine ⟨fe, fun pl s g st => ⟨nI 0, ?_⟩, hf⟩
        rw [E]
        exact if_pos (show nI 0 ≤ 0 by decide)
      · have e1 : (nI set - 1) &&& (nI ch &&& (nI dn ^^^ (-1))) = nI ((set - 1) &&& zop ch dn) := by
          rw [zop_nI hch hdn, show nI set - 1 = nI (set - 1) from pk_sub (b := 1) (by omega), fa_and]
        have l1 : (set - 1) &&& zop ch dn ≤ set - 1 := Nat.and_le_left
        have l2 : zsub ((set - 1) &&& zop ch dn) (zop ch dn) := by
          intro i hi
          rw [Nat.testBit_and] at hi
          exact (Bool.and_eq_true_iff.mp hi).2
        have hor : dn ||| set < 256 := Nat.or_lt_two_pow (n := 8) hdn h8
        have e2 : f_X5_at 256 V (nI dn ||| nI set) = V (dn ||| set) := by rw [fa_or, z_at hor (by decide)]
        have E2 := fun pl s g st => E pl s g st n fe (nI set)
        simp only [if_neg (nI_nle (show 0 < set by omega) (show set < 2 ^ 31 by omega)), e1, e2] at E2
        have stay := ih ((set - 1) &&& zop ch dn) fe (by omega) (by omega) l2 hf
        by_cases q1 : V (dn ||| set) = -1
        · simp only [if_pos q1] at E2
          simp only [E2]
          exact stay
        · simp only [if_neg q1] at E2
          by_cases q2 : zcb d pw (nI set) = 0
          · have E3 : ∀ (pl : q_IA) (s g : Int64) (st : Int32), fl_X2_fewestFrom_14 (nI dn) (V, d, pl, s, g, pw, nI ch, st) (n + 1) fe (nI set) = fl_X2_fewestFrom_14 (nI dn) (V, d, pl, s, g, pw, nI ch, st) n fe (nI ((set - 1) &&& zop ch dn)) := by
              intro pl s g st
              rw [E2, if_pos q2]
              by_cases q3 : fe = -1
              · rw [if_pos q3]
              · rw [if_neg q3]
                split <;> rfl
            simp only [E3]
            exact stay
          · have go := ih ((set - 1) &&& zop ch dn) (V (dn ||| set) + 1) (by omega) (by omega) l2 (Or.inr ⟨set, q0, hs, q1, rfl, q2⟩)
            by_cases q3 : fe = -1
            · simp only [if_pos q3, if_neg q2] at E2
              simp only [E2]
              exact go
            · simp only [if_neg q3, if_neg q2] at E2
              by_cases q4 : fe ≤ V (dn ||| set) + 1
              · simp only [if_pos q4] at E2
                simp only [E2]
                exact stay
              · simp only [if_neg q4] at E2
                simp only [E2]
                exact go
  have hz : zop ch dn ≤ ch := zop_le ch dn
  obtain ⟨v, h1, h2⟩ := L 1000 (zop ch dn) (-1) (by omega) (by omega) (fun i h => h) (Or.inl rfl)
  refine ⟨v, fun pl s g st => ?_, h2⟩
  obtain ⟨x, hx⟩ := h1 pl s g st
  unfold f_X2_fewestFrom
  refine Option.bind_eq_some_iff.mpr ⟨(v, x), ?_, rfl⟩
  show fl_X2_fewestFrom_14 (nI dn) (V, d, pl, s, g, pw, nI ch, st) 1000 (-1) (nI ch &&& (nI dn ^^^ (-1))) = _
  rw [zop_nI hch hdn]
  exact hx
/-- what a set of columns that are done knows -/
def zgood (d : q_IA) (pw : Int32) (ch : Nat) (V : q_IA) (j : Nat) : Prop :=
  V j = -1 ∨ ∃ q set, V j = nI (q + 1) ∧ q + 1 + zpcn j ≤ zpcn ch ∧ set ≠ 0 ∧ zsub set (zop ch j) ∧ V (j ||| set) = nI q ∧ zcb d pw (nI set) ≠ 0
def zInv (d : q_IA) (pw : Int32) (ch : Nat) (sl : q_IA) (t : Nat) (V : q_IA) : Prop :=
  (∀ j, 256 ≤ j → V j = sl j) ∧ V ch = 0 ∧ (∀ j, j < t → V j = sl j) ∧ ∀ j, t ≤ j → zsub j ch → j ≠ ch → zgood d pw ch V j ∧ (sl j = -1 → V j = -1)
theorem z_ch19 (d : q_IA) (pw : Int32) {ch : Nat} (hch : ch < 256) (sl : q_IA) : ∀ (t n : Nat) (V : q_IA), t < n → t ≤ ch → zInv d pw ch sl t V → ∃ V', (∀ (pl : q_IA) (s g : Int64) (st : Int32), ∃ x, fl_X2_choose_19 n (nI t + (-1)) (V, d, pl, s, g, pw, nI ch, st) = some (x, (V', d, pl, s, g, pw, nI ch, st))) ∧ zInv d pw ch sl 0 V' := by
  have E : ∀ (V pl : q_IA) (s g : Int64) (st : Int32) (n : Nat) (i : Int32), fl_X2_choose_19 (n + 1) i (V, d, pl, s, g, pw, nI ch, st) = (if i < 0 then some (i, (V, d, pl, s, g, pw, nI ch, st)) else (if (i &&& (nI ch ^^^ (-1))) = 0 then (if f_X5_at 256 V i = (-1) then fl_X2_choose_19 n (i + (-1)) (V, d, pl, s, g, pw, nI ch, st) else ((f_X2_fewestFrom (V, d, pl, s, g, pw, nI ch, st) i).bind fun x_4 => fl_X2_choose_19 n (i + (-1)) (f_X5_put 256 V i x_4, d, pl, s, g, pw, nI ch, st))) else fl_X2_choose_19 n (i + (-1)) (V, d, pl, s, g, pw, nI ch, st))) := fun _ _ _ _ _ _ _ => rfl
  intro t
  induction t with
  | zero =>
    intro n V hn _ hI
    obtain ⟨n, rfl, -⟩ := z_suc hn
    refine ⟨V, fun pl s g st => ⟨nI 0 + (-1), ?_⟩, hI⟩
    rw [E]
    exact if_pos (by decide)
  | succ t ih =>
    intro n V hn ht hI
    obtain ⟨n, rfl, hn2⟩ := z_suc hn
    obtain ⟨i1, i2, i3, i4⟩ := hI
    have E2 := fun pl s g st => E V pl s g st n (nI (t + 1) + (-1))
    simp only [pk_m1, if_neg (nI_pos (show t < 2 ^ 31 by omega)), zop_nI (show t < 256 by omega) hch, z_at (show t < 256 by omega) (show 256 < 2 ^ 31 by decide)] at E2
    have hz : (nI (zop t ch) = 0) ↔ zsub t ch := by
      have := zop_le t ch
      rw [show (0 : Int32) = nI 0 from rfl, nI_eq (by omega) (by decide)]
      exact zop_0 (by omega)
    by_cases q1 : zsub t ch
    · simp only [if_pos (hz.mpr q1)] at E2
      by_cases q2 : V t = -1
      · simp only [if_pos q2] at E2
        simp only [pk_m1, E2]
        refine ih n V (by omega) (by omega) ⟨i1, i2, fun j hj => i3 j (by omega), fun j hj h1 h2 => ?_⟩
        by_cases e : j = t
        · subst e
          exact ⟨Or.inl q2, fun _ => q2⟩
        · exact i4 j (by omega) h1 h2
      · simp only [if_neg q2] at E2
        obtain ⟨v, f1, f2⟩ := z_fewest V d pw hch (show t < 256 by omega)
        have E3 : ∀ (pl : q_IA) (s g : Int64) (st : Int32), fl_X2_choose_19 (n + 1) (nI t) (V, d, pl, s, g, pw, nI ch, st) = fl_X2_choose_19 n (nI t + (-1)) (upd V t v, d, pl, s, g, pw, nI ch, st) := by
          intro pl s g st
          rw [E2, f1]
          show fl_X2_choose_19 n (nI t + (-1)) (f_X5_put 256 V (nI t) v, d, pl, s, g, pw, nI ch, st) = _
          rw [z_put (by omega) (by decide)]
        simp only [pk_m1, E3]
        refine ih n (upd V t v) (by omega) (by omega) ⟨fun j hj => ?_, ?_, fun j hj => ?_, fun j hj h1 h2 => ?_⟩
        · rw [pk_un (by omega)]
          exact i1 j hj
        · rw [pk_un (by omega)]
          exact i2
        · rw [pk_un (by omega)]
          exact i3 j (by omega)
        · by_cases e : j = t
          · subst e
            refine ⟨?_, fun h => absurd ((i3 j (by omega)).trans h) q2⟩
            rcases f2 with rfl | ⟨set, s1, s2, s3, s4, s5⟩
            · exact Or.inl pk_us
            · right
              have lt := z_or_lt hch s1 s2
              have le := zpcn_or hch s1 s2
              have sb : zsub (j ||| set) ch := zor_sub q1 (zop_sub hch s2).1
              by_cases e2 : (j ||| set) = ch
              · refine ⟨0, set, ?_, ?_, s1, s2, ?_, s5⟩
                · rw [pk_us, s4, e2, i2]
                  rfl
                · rw [e2] at le
                  omega
                · rw [pk_un (by omega), e2, i2]
                  rfl
              · rcases (i4 (j ||| set) (by omega) sb e2).1 with h | ⟨q, set2, t1, t2, -⟩
                · exact absurd h s3
                · refine ⟨q + 1, set, ?_, by omega, s1, s2, ?_, s5⟩
                  · rw [pk_us, s4, t1, nI_1]
                  · rw [pk_un (by omega), t1]
          · obtain ⟨g1, g2⟩ := i4 j (by omega) h1 h2
            rw [pk_un e]
            refine ⟨?_, g2⟩
            rcases g1 with h | ⟨q, set, t1, t2, t3, t4, t5, t6⟩
            · left
              rw [pk_un e]
              exact h
            · right
              refine ⟨q, set, ?_, t2, t3, t4, ?_, t6⟩
              · rw [pk_un e]
                exact t1
              · have : j ≤ j ||| set := Nat.left_le_or
                rw [pk_un (by omega)]
                exact t5
    · simp only [if_neg (mt hz.mp q1)] at E2
      simp only [pk_m1, E2]
      refine ih n V (by omega) (by omega) ⟨i1, i2, fun j hj => i3 j (by omega), fun j hj h1 h2 => ?_⟩
      by_cases e : j = t
      · subst e
        exact absurd h1 q1
      · exact i4 j (by omega) h1 h2
theorem z_small (V d : q_IA) (pw : Int32) {ch dn q : Nat} (hch : ch < 256) (hdn : dn < 256) (hV : V dn = nI (q + 1)) (ex : ∃ set, set ≠ 0 ∧ zsub set (zop ch dn) ∧ V (dn ||| set) = nI q ∧ zcb d pw (nI set) ≠ 0) : ∃ set, (∀ (pl : q_IA) (s g : Int64) (st : Int32), f_X2_smallestFrom (V, d, pl, s, g, pw, nI ch, st) (nI dn) = some (nI set)) ∧ set ≠ 0 ∧ zsub set (zop ch dn) ∧ V (dn ||| set) = nI q := by
  have E : ∀ (pl : q_IA) (s g : Int64) (st : Int32) (n : Nat) (i : Int32), fl_X2_smallestFrom_23 (nI dn) (V, d, pl, s, g, pw, nI ch, st) (n + 1) i = (if (nI ch &&& (nI dn ^^^ (-1))) < i then some (.inr i) else (if (i &&& ((nI ch &&& (nI dn ^^^ (-1))) ^^^ (-1))) = 0 then (if f_X5_at 256 V (nI dn ||| i) = (f_X5_at 256 V (nI dn) - 1) then (if zcb d pw i = 0 then fl_X2_smallestFrom_23 (nI dn) (V, d, pl, s, g, pw, nI ch, st) n (i + 1) else some (.inl i)) else fl_X2_smallestFrom_23 (nI dn) (V, d, pl, s, g, pw, nI ch, st) n (i + 1)) else fl_X2_smallestFrom_23 (nI dn) (V, d, pl, s, g, pw, nI ch, st) n (i + 1))) := fun _ _ _ _ _ _ => rfl
  obtain ⟨e, e0, e1, e2, e3⟩ := ex
  have hz : zop ch dn ≤ ch := zop_le ch dn
  have he : e ≤ zop ch dn := zsub_le e1
  have L : ∀ (b k n : Nat), k + b = e → b < n → 1 ≤ k → ∃ set, (∀ (pl : q_IA) (s g : Int64) (st : Int32), fl_X2_smallestFrom_23 (nI dn) (V, d, pl, s, g, pw, nI ch, st) n (nI k) = some (.inl (nI set))) ∧ set ≠ 0 ∧ zsub set (zop ch dn) ∧ V (dn ||| set) = nI q := by
    intro b
    induction b with
    | zero =>
      intro k n hk hn h1
      obtain ⟨n, rfl, -⟩ := z_suc hn
      obtain rfl : k = e := by omega
      refine ⟨k, fun pl s g st => ?_, e0, e1, e2⟩
      have hor : dn ||| k < 256 := Nat.or_lt_two_pow (n := 8) hdn (show k < 2 ^ 8 by omega)
      rw [E, zop_nI hch hdn, if_neg (nI_nlt he (by omega)), zop_nI (by omega) (by omega), fa_or, z_at hor (by decide), z_at hdn (by decide), hV, nI_pred, if_pos e2, if_neg e3]
      refine if_pos ?_
      have := zop_le k (zop ch dn)
      rw [(zop_0 (show k < 256 by omega)).mpr e1]
      rfl
    | succ b ih =>
      intro k n hk hn h1
      obtain ⟨n, rfl, hn2⟩ := z_suc hn
      have hor : dn ||| k < 256 := Nat.or_lt_two_pow (n := 8) hdn (show k < 2 ^ 8 by omega)
      have go := ih (k + 1) n (by omega) (by omega) (by omega)
      have E2 := fun pl s g st => E pl s g st n (nI k)
      simp only [zop_nI hch hdn, if_neg (nI_nlt (show k ≤ zop ch dn by omega) (show zop ch dn < 2 ^ 31 by omega)), zop_nI (show k < 256 by omega) (show zop ch dn < 256 by omega), fa_or, z_at hor (show 256 < 2 ^ 31 by decide), z_at hdn (show 256 < 2 ^ 31 by decide), hV, nI_pred, nI_1] at E2
      have hzz : (nI (zop k (zop ch dn)) = 0) ↔ zsub k (zop ch dn) := by
        have := zop_le k (zop ch dn)
        rw [show (0 : Int32) = nI 0 from rfl, nI_eq (by omega) (by decide)]
        exact zop_0 (by omega)
      by_cases q1 : zsub k (zop ch dn)
      · simp only [if_pos (hzz.mpr q1)] at E2
        by_cases q2 : V (dn ||| k) = nI q
        · simp only [if_pos q2] at E2
          by_cases q3 : zcb d pw (nI k) = 0
          · simp only [if_pos q3] at E2
            simp only [E2]
            exact go
          · simp only [if_neg q3] at E2
            exact ⟨k, E2, by omega, q1, q2⟩
        · simp only [if_neg q2] at E2
          simp only [E2]
          exact go
      · simp only [if_neg (mt hzz.mp q1)] at E2
        simp only [E2]
        exact go
  obtain ⟨set, h1, h2⟩ := L (e - 1) 1 1000 (by omega) (by omega) (by omega)
  refine ⟨set, fun pl s g st => ?_, h2⟩
  unfold f_X2_smallestFrom
  exact Option.bind_eq_some_iff.mpr ⟨_, h1 pl s g st, rfl⟩
