/-! all is well -/
theorem z_isWell8 {F : q_Fl} {B : q_Bd} {K : q_Bk} {w m : Nat} {ln : Nat → Nat} (hB : B.2.2.1 = nI w) (hw : w ≤ 8) (hK : zK m ln K) {r : Int32} (hr : r = -1 ∨ ∃ j q, j < m ∧ r = nI j ∧ q ≤ 64 ∧ f_X5_distance B K B.2.2.2.1 (nI j) = some (nI q) ∧ nI q ≤ F.2.1 ∧ ∀ k, k < m → k ≠ j → ∀ v, f_X5_distance B K B.2.2.2.1 (nI k) = some v → v = -1 ∨ ∃ p, p ≤ 64 ∧ v = nI p ∧ q < p) (N : q_Pl) :
    ∀ d k n, k + d = m → d < n → fl_L_isWell_8 F B K q_I0 q_T0 r n (nI k) N = some (.inr (nI m, N)) := by
  have hm := hK.2.1
  have hK1 := hK.1
  have h4 := z_sg4 F B K q_I0 q_T0
  have h2 := z_sg2 F B K q_I0 q_T0
  rw [hK1] at h4
  have e01 : ¬ ((0 : Int32) = 1) := by decide
  have en : ((-1 : Int32) < 0) := by decide
  have en0 : ¬ ((-1 : Int32) = 0) := by decide
  intro d
  induction d with
  | zero =>
    intro k n hk hn
    obtain ⟨n, rfl, -⟩ := z_suc hn
    obtain rfl : k = m := by omega
    rw [fl_L_isWell_8, h4]
    exact if_pos (nI_le (Nat.le_refl _) (by omega))
  | succ d ih =>
    intro k n hk hn
    obtain ⟨n, rfl, hn2⟩ := z_suc hn
    have go := ih (k + 1) n (by omega) (by omega)
    have hk1 : ¬ (nI m ≤ nI k) := nI_ge (show k < m by omega) (by omega)
    obtain ⟨v, hv, hv1, -⟩ := z_dist hB hw hK (show k < m by omega) B.2.2.2.1
    obtain ⟨o4, o5⟩ := z_of45 (F := F) hB hw hK (show k < m by omega) hv N
    rw [fl_L_isWell_8, h4, Option.bind_some]
    refine (if_neg hk1).trans ?_
    rw [o4, Option.bind_some]
    rcases hr with rfl | ⟨j, q, hj, rfl, hq, hd, hbl, hot⟩
    · by_cases q0 : v = 0
      · rw [if_pos q0] at o5
        refine (if_pos (show (v, N).1 = 0 from q0)).trans ?_
        rw [show (v, N).2 = N from rfl, o5, Option.bind_some]
        refine (if_pos rfl).trans ((if_pos rfl).trans ((if_pos en).trans ((if_pos en).trans ?_)))
        rw [nI_1]
        exact go
      · rw [if_neg q0] at o5
        refine (if_neg (show ¬ (v, N).1 = 0 from q0)).trans ?_
        rw [show (v, N).2 = N from rfl, o5, Option.bind_some]
        refine (if_neg (show ¬ ((0 : Int32), N).1 = 1 from e01)).trans ((if_pos rfl).trans ((if_pos en).trans ((if_pos en).trans ?_)))
        rw [nI_1]
        exact go
    · obtain ⟨p4, -⟩ := z_of45 (F := F) hB hw hK hj hd N
      have hj0 : ¬ (nI j < 0) := nI_pos (by omega)
      by_cases qk : k = j
      · subst qk
        by_cases q0 : v = 0
        · rw [if_pos q0] at o5
          refine (if_pos (show (v, N).1 = 0 from q0)).trans ?_
          rw [show (v, N).2 = N from rfl, o5, Option.bind_some]
          refine (if_pos rfl).trans ((if_pos rfl).trans ((if_neg hj0).trans ((if_pos rfl).trans ((if_neg hj0).trans ?_))))
          rw [show ((1 : Int32), N).2 = N from rfl, p4, Option.bind_some, h2, Option.bind_some]
          refine (if_pos (show (nI q, N).1 ≤ F.2.1 from hbl)).trans ?_
          rw [nI_1]
          exact go
        · rw [if_neg q0] at o5
          refine (if_neg (show ¬ (v, N).1 = 0 from q0)).trans ?_
          rw [show (v, N).2 = N from rfl, o5, Option.bind_some]
          refine (if_neg (show ¬ ((0 : Int32), N).1 = 1 from e01)).trans ((if_pos rfl).trans ((if_neg hj0).trans ((if_pos rfl).trans ((if_neg hj0).trans ?_))))
          rw [show ((0 : Int32), N).2 = N from rfl, p4, Option.bind_some, h2, Option.bind_some]
          refine (if_pos (show (nI q, N).1 ≤ F.2.1 from hbl)).trans ?_
          rw [nI_1]
          exact go
      · have ek : ¬ (nI k = nI j) := by rw [nI_eq (by omega) (by omega)]; exact qk
        rcases hot k (by omega) qk v hv with rfl | ⟨p, hp, rfl, hqp⟩
        · rw [if_neg en0] at o5
          refine (if_neg (show ¬ ((-1 : Int32), N).1 = 0 from en0)).trans ?_
          rw [show ((-1 : Int32), N).2 = N from rfl, o5, Option.bind_some]
          refine (if_neg (show ¬ ((0 : Int32), N).1 = 1 from e01)).trans ((if_pos rfl).trans ((if_neg hj0).trans ((if_neg ek).trans ((if_pos (show ((-1 : Int32), N).1 < 0 from en)).trans ((if_neg hj0).trans ?_)))))
          rw [show ((0 : Int32), N).2 = N from rfl, p4, Option.bind_some, h2, Option.bind_some]
          refine (if_pos (show (nI q, N).1 ≤ F.2.1 from hbl)).trans ?_
          rw [nI_1]
          exact go
        · have hp0 : ¬ (nI p < 0) := nI_pos (by omega)
          have hpq : ¬ (nI p ≤ nI q) := nI_ge hqp (by omega)
          have q0 : ¬ (nI p = 0) := by rw [show (0 : Int32) = nI 0 from rfl, nI_eq (by omega) (by omega)]; omega
          rw [if_neg q0] at o5
          refine (if_neg (show ¬ (nI p, N).1 = 0 from q0)).trans ?_
          rw [show (nI p, N).2 = N from rfl, o5, Option.bind_some]
          refine (if_neg (show ¬ ((0 : Int32), N).1 = 1 from e01)).trans ((if_pos rfl).trans ((if_neg hj0).trans ((if_neg ek).trans ((if_neg (show ¬ (nI p, N).1 < 0 from hp0)).trans ?_))))
          rw [show ((0 : Int32), N).2 = N from rfl, p4, Option.bind_some]
          refine (if_neg (show ¬ (nI p, N).1 ≤ (nI q, N).1 from hpq)).trans ((if_neg hj0).trans ?_)
          rw [show (nI q, N).2 = N from rfl, p4, Option.bind_some, h2, Option.bind_some]
          refine (if_pos (show (nI q, N).1 ≤ F.2.1 from hbl)).trans ?_
          rw [nI_1]
          exact go
theorem z_isWell {F : q_Fl} {B : q_Bd} {K : q_Bk} {w t m : Nat} {fl wr ln : Nat → Nat} (hB : zB w t fl wr B) (hK : zK m ln K) {N : q_Pl} (hN : zN N) : ∃ R, f_L_isWell F B K N q_I0 q_T0 (nI w) = some (1, R) ∧ zN R := by
  have hw := hB.2.1
  have hBw := hB.2.2.2.1
  have hF : ∀ c, c < 8 → zF fl c ≤ 5000 := fun c hc => zF_le hB hc
  obtain ⟨r, hr, hr2⟩ := z_readAs (F := F) hBw hw hK B.2.2.2.1
  obtain ⟨R, s1, s2⟩ := z_isSound (F := F) hB hK hN
  refine ⟨R, ?_, s2⟩
  have L1 := z_isWell8 hBw hw hK hr2 N m 0 1000 (by omega) (by have := hK.2.1; omega)
  obtain ⟨-, -, -, -, h1, h2, -⟩ := hB
  have L2 : ∀ c, c < w → ∀ d k n, k + d = 5 → d < n → fl_L_isWell_117 B (nI c) n (nI (fb_sm (fun h => fl (5 * c + h)) k)) (nI k) = some (nI (zF fl c), nI 5) := by
    intro c hc d
    induction d with
    | zero =>
      intro k n hk hn
      obtain ⟨n, rfl, -⟩ := z_suc hn
      obtain rfl : k = 5 := by omega
      rw [fl_L_isWell_117]
      exact if_pos (show (5 : Int32) ≤ nI 5 from nI_le (a := 5) (Nat.le_refl _) (by omega))
    | succ d ih =>
      intro k n hk hn
      obtain ⟨n, rfl, hn2⟩ := z_suc hn
      rw [fl_L_isWell_117]
      refine (if_neg (show ¬ (5 : Int32) ≤ nI k from nI_ge (b := 5) (by omega) (by decide))).trans ?_
      rw [z_dot1 hBw hw hc (show k < 5 by omega), (h1 _ (by omega)).1]
      show fl_L_isWell_117 B (nI c) n (nI (fb_sm (fun h => fl (5 * c + h)) k) + nI (fl (5 * c + k))) (nI k + 1) = _
      rw [nI_add, nI_1]
      exact ih (k + 1) n (by omega) (by omega)
  have L3 : ∀ y, ∀ d k n, k + d = w → d < n → fl_L_isWell_106 (nI w) B y n (nI k) = some (.inr (nI w)) := by
    intro y d
    induction d with
    | zero =>
      intro k n hk hn
      obtain ⟨n, rfl, -⟩ := z_suc hn
      obtain rfl : k = w := by omega
      rw [fl_L_isWell_106]
      exact if_pos (nI_le (Nat.le_refl _) (by omega))
    | succ d ih =>
      intro k n hk hn
      obtain ⟨n, rfl, hn2⟩ := z_suc hn
      have l2 : fl_L_isWell_117 B (nI k) 1000 0 0 = some (nI (zF fl k), nI 5) := L2 k (by omega) 5 0 1000 (by omega) (by omega)
      have hFk := hF k (by omega)
      rw [fl_L_isWell_106, if_neg (nI_ge (show k < w by omega) (by omega)), l2]
      show ((f_X5_column B (nI k) 1).bind fun x_106003 => (if x_106003 ≤ nI (zF fl k) then fl_L_isWell_106 (nI w) B y n (nI k + 1) else some (.inl (0, y.2)))) = _
      rw [z_col1 hBw hw (show k < w by omega), (h2 k (by omega)).1]
      show (if nI (wr k) ≤ nI (zF fl k) then fl_L_isWell_106 (nI w) B y n (nI k + 1) else some (.inl (0, y.2))) = _
      rw [if_pos (nI_le (h2 k (by omega)).2 (by omega)), nI_1]
      exact ih (k + 1) n (by omega) (by omega)
  unfold f_L_isWell
  refine Option.bind_eq_some_iff.mpr ⟨_, z_sg5 q_I0 q_T0 hr, Option.bind_eq_some_iff.mpr ⟨_, L1, ?_⟩⟩
  show (((fl_L_isWell_106 (nI w) B (nI m, N) 1000 0).bind fun z_4 => Sum.elim (fun r_ => some r_) (fun y_5 => ((f_X5_isSound F B K N q_T0).bind fun x_6 => some (x_6.1, x_6.2))) z_4)) = _
  refine Option.bind_eq_some_iff.mpr ⟨_, L3 (nI m, N) w 0 1000 (by omega) (by omega), ?_⟩
  show ((f_X5_isSound F B K N q_T0).bind fun x_6 => some (x_6.1, x_6.2)) = _
  rw [s1]
  rfl
