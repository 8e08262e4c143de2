/-! no wrong line half way -/
theorem z_nowrong {w m l q : Nat} {ln pc dq : Nat → Nat} {K : q_Bk} {s g : Int64} {sl : q_IA} (h1 : zsteps (zch s g) sl q pc dq) (h2 : ∀ k, k < m → k ≠ l → ¬ zsay w ln K s k → ∀ o, ln k + o ≤ w → ∀ dn, zmix s g dn (f_X1_placed K (nI k) (nI o)) → sl dn = -1) {j : Nat} (j0 : 0 < j) (jq : j < q) {P : Int64} (hP : ∀ i, i < 64 → zb P i = if (dq j).testBit (i / 5) = true then zb g i else zb s i) : ∀ k, k < m → k ≠ l → ¬ zsay w ln K s k → ¬ zsay w ln K P k := by
  rintro k hk hkl hs ⟨o, ho, e⟩
  obtain ⟨-, -, -, -, a, -, b⟩ := h1
  refine b j j0 jq (h2 k hk hkl hs o ho (dq j) ?_)
  rw [← e]
  exact ⟨Nat.lt_of_le_of_lt (zsub_le (a j (by omega))) (zch_lt s g), a j (by omega), hP⟩
theorem z_behind (R : q_Pl) {dn : Nat} : ∃ P, f_X2_pictureBehind R (nI dn) = some P ∧ ∀ i, i < 64 → zb P i = if i / 5 < 8 ∧ dn.testBit (i / 5) = true then zb R.2.2.2.2.1 i else zb R.2.2.2.1 i := by
  have L : ∀ d k n (P : Int64), k + d = 8 → d < n → (∀ i, i < 64 → zb P i = if i / 5 < k ∧ dn.testBit (i / 5) = true then zb R.2.2.2.2.1 i else zb R.2.2.2.1 i) → ∃ P', fl_X2_pictureBehind_8 (nI dn) R n P (nI k) = some (P', nI 8) ∧ ∀ i, i < 64 → zb P' i = if i / 5 < 8 ∧ dn.testBit (i / 5) = true then zb R.2.2.2.2.1 i else zb R.2.2.2.1 i := by
    intro d
    induction d with
    | zero =>
      intro k n P hk hn hP
      obtain ⟨n, rfl, -⟩ := z_suc hn
      obtain rfl : k = 8 := by omega
      refine ⟨P, ?_, hP⟩
      rw [fl_X2_pictureBehind_8]
      exact if_pos (show (8 : Int32) ≤ nI 8 from nI_le (a := 8) (Nat.le_refl _) (by omega))
    | succ d ih =>
      intro k n P hk hn hP
      obtain ⟨n, rfl, hn2⟩ := z_suc hn
      rw [fl_X2_pictureBehind_8, if_neg (show ¬ (8 : Int32) ≤ nI k from nI_ge (b := 8) (by omega) (by decide)), z_sh1 k (by omega), z_bitOf0, nI_1]
      by_cases q : dn.testBit k = true
      · rw [if_neg (by rw [fa_bit (by omega), q]; decide)]
        refine ih (k + 1) n _ (by omega) (by omega) (fun i hi => ?_)
        rw [zb_xor, zb_and, zb_xor, zb_shl _ _ (by omega) hi, hP i hi]
        by_cases q2 : i / 5 = k
        · rw [if_neg (by omega), if_pos ⟨by omega, by rw [q2]; exact q⟩, decide_eq_true (show 5 * k ≤ i by omega), zb_31 _ (by omega), decide_eq_true (show i - 5 * k < 5 by omega)]
          generalize zb R.2.2.2.1 i = a
          generalize zb R.2.2.2.2.1 i = b
          cases a <;> cases b <;> rfl
        · have e : (decide (5 * k ≤ i) && zb 31 (i - 5 * k)) = false := by
            by_cases q3 : 5 * k ≤ i
            · rw [zb_31 _ (by omega), decide_eq_false (show ¬ i - 5 * k < 5 by omega), Bool.and_false]
            · rw [decide_eq_false q3, Bool.false_and]
          rw [e, Bool.and_false, Bool.xor_false]
          by_cases q4 : i / 5 < k ∧ dn.testBit (i / 5) = true
          · rw [if_pos q4, if_pos ⟨by omega, q4.2⟩]
          · rw [if_neg q4, if_neg (fun h => q4 ⟨by omega, h.2⟩)]
      · rw [if_pos (by rw [fa_bit (by omega)]; simpa using q)]
        refine ih (k + 1) n P (by omega) (by omega) (fun i hi => ?_)
        rw [hP i hi]
        by_cases q2 : i / 5 = k
        · rw [if_neg (by omega), if_neg (by rw [q2]; exact fun h => q h.2)]
        · by_cases q4 : i / 5 < k ∧ dn.testBit (i / 5) = true
          · rw [if_pos q4, if_pos ⟨by omega, q4.2⟩]
          · rw [if_neg q4, if_neg (fun h => q4 ⟨by omega, h.2⟩)]
  obtain ⟨P', h1, h2⟩ := L 8 0 1000 R.2.2.2.1 (by omega) (by omega) (fun i hi => (if_neg (by omega)).symm)
  unfold f_X2_pictureBehind
  exact ⟨P', Option.bind_eq_some_iff.mpr ⟨_, h1, rfl⟩, h2⟩
theorem z_isWrong {B : q_Bd} {K : q_Bk} {w m : Nat} {ln : Nat → Nat} (hB : B.2.2.1 = nI w) (hw : w ≤ 8) (hK : zK m ln K) {l : Nat} (hl : l < m) {P : Int64} (h : ∀ k, k < m → k ≠ l → ¬ zsay w ln K B.2.2.2.1 k → ¬ zsay w ln K P k) : f_X5_isWrong B K P (nI l) = some 0 := by
  have hm := hK.2.1
  have hK1 := hK.1
  have L : ∀ d i n, i + d = m → d < n → fl_X5_isWrong_3 P (nI l) B K n (nI i) = some (.inr (nI m)) := by
    intro d
    induction d with
    | zero =>
      intro i n hi hn
      obtain ⟨n, rfl, -⟩ := z_suc hn
      obtain rfl : i = m := by omega
      rw [fl_X5_isWrong_3, hK1]
      exact if_pos (nI_le (Nat.le_refl _) (by omega))
    | succ d ih =>
      intro i n hi hn
      obtain ⟨n, rfl, hn2⟩ := z_suc hn
      have go := ih (i + 1) n (by omega) (by omega)
      rw [fl_X5_isWrong_3, hK1, if_neg (nI_ge (show i < m by omega) (by omega)), nI_1]
      by_cases q : i = l
      · rw [if_pos (by rw [q])]
        exact go
      · rw [if_neg (by rw [nI_eq (by omega) (by omega)]; exact q)]
        rcases z_says hB hw hK (show i < m by omega) P with ⟨hs, es⟩ | ⟨hs, es⟩
        · rcases z_says hB hw hK (show i < m by omega) B.2.2.2.1 with ⟨hs2, es2⟩ | ⟨hs2, es2⟩
          · rw [es, es2]
            exact go
          · exact absurd hs (h i (by omega) q hs2)
        · rw [es]
          exact go
  unfold f_X5_isWrong
  exact Option.bind_eq_some_iff.mpr ⟨_, L m 0 1000 (by omega) (by omega), rfl⟩
theorem z_planIsTrue {F : q_Fl} {B : q_Bd} {K : q_Bk} {w m : Nat} {ln : Nat → Nat} (hB : B.2.2.1 = nI w) (hw : w ≤ 8) (hK : zK m ln K) {l : Nat} (hl : l < m) {N : q_Pl} (hN : zN N) : ∃ R, f_X5_planIsTrue F B K N (nI l) = some (1, R) ∧ zN R := by
  obtain ⟨st, fp, so, goal, ho, hr⟩ := z_makePlan (F := F) hB hw hK hl
  obtain ⟨R, r1, r2, r3, -, r5, r6⟩ := hr N hN
  refine ⟨R, ?_, r2⟩
  have done : ∀ n i j, (R.2.2.2.2.2.2.2 - 1) ≤ j → fl_X5_planIsTrue_9 (nI l) B K R (n + 1) i j = some (.inr (i, j)) := by
    intro n i j h
    rw [fl_X5_planIsTrue_9]
    exact if_pos h
  have fin : ∀ i j, fl_X5_planIsTrue_9 (nI l) B K R 1000 0 0 = some (.inr (i, j)) → f_X5_planIsTrue F B K N (nI l) = some (1, R) := by
    intro i j h
    unfold f_X5_planIsTrue
    exact Option.bind_eq_some_iff.mpr ⟨_, r1, Option.bind_eq_some_iff.mpr ⟨_, h, rfl⟩⟩
  rcases ho with ⟨rfl, -, -⟩ | ⟨q, o, pc, dq, sl, rfl, -, -, -, -, hq, hso, hf⟩
  · exact fin 0 0 (done 999 0 0 (by rw [r3]; decide))
  · have h8 := zpcn_le (zch B.2.2.2.1 goal)
    have hq8 := hq.1
    obtain ⟨g1, g2⟩ := r6 (z_m1_ne (by omega))
    by_cases q0 : q = 0
    · subst q0
      exact fin 0 0 (done 999 0 0 (by rw [r3]; decide))
    · have e1 : R.2.2.2.2.2.2.2 - 1 = nI (q - 1) := by rw [r3]; exact pk_sub (b := 1) (by omega)
      have L : ∀ d j n, j + d = q - 1 → d < n → fl_X5_planIsTrue_9 (nI l) B K R n (nI (dq j)) (nI j) = some (.inr (nI (dq (q - 1)), nI (q - 1))) := by
        intro d
        induction d with
        | zero =>
          intro j n hj hn
          obtain ⟨n, rfl, -⟩ := z_suc hn
          obtain rfl : j = q - 1 := by omega
          exact done n _ _ (by rw [e1]; exact nI_le (Nat.le_refl _) (by omega))
        | succ d ih =>
          intro j n hj hn
          obtain ⟨n, rfl, hn2⟩ := z_suc hn
          have hst := hq.2.2.2.2.2.1
          obtain ⟨-, -, s3⟩ := hst j (by omega)
          rw [fl_X5_planIsTrue_9, e1, if_neg (nI_ge (show j < q - 1 by omega) (by omega)), r5 j (by omega), hso j, if_pos (show j < q by omega), fa_or, ← s3, nI_1]
          obtain ⟨P, p1, p2⟩ := z_behind R (dn := dq (j + 1))
          rw [p1]
          show ((f_X5_isWrong B K P (nI l)).bind fun x_4 => (if x_4 = 0 then fl_X5_planIsTrue_9 (nI l) B K R n (nI (dq (j + 1))) (nI (j + 1)) else some (.inl (0, R)))) = _
          rw [z_isWrong hB hw hK hl (z_nowrong hq hf (j := j + 1) (by omega) (by omega) (P := P) (fun i hi => by
            rw [p2 i hi, g1, g2]
            by_cases q5 : (dq (j + 1)).testBit (i / 5) = true
            · rw [if_pos q5, if_pos ⟨z_lo8 (Nat.lt_of_le_of_lt (zsub_le (hq.2.2.2.2.1 (j + 1) (by omega))) (zch_lt _ _)) q5, q5⟩]
            · rw [if_neg q5, if_neg (fun h => q5 h.2)]))]
          exact ih (j + 1) n (by omega) (by omega)
      have h0 := L (q - 1) 0 1000 (by omega) (by omega)
      rw [hq.2.2.1] at h0
      exact fin _ _ h0
theorem z_isSound {F : q_Fl} {B : q_Bd} {K : q_Bk} {w t m : Nat} {fl wr ln : Nat → Nat} (hB : zB w t fl wr B) (hK : zK m ln K) {N : q_Pl} (hN : zN N) : ∃ R, f_X5_isSound F B K N q_T0 = some (1, R) ∧ zN R := by
  have hm := hK.2.1
  have hK1 := hK.1
  have L : ∀ d i n N, i + d = m → d < n → zN N → ∃ R, fl_X5_isSound_2 F B K n (nI i) N = some (.inr (nI m, R)) ∧ zN R := by
    intro d
    induction d with
    | zero =>
      intro i n N hi hn hN
      obtain ⟨n, rfl, -⟩ := z_suc hn
      obtain rfl : i = m := by omega
      refine ⟨N, ?_, hN⟩
      rw [fl_X5_isSound_2, hK1]
      exact if_pos (nI_le (Nat.le_refl _) (by omega))
    | succ d ih =>
      intro i n N hi hn hN
      obtain ⟨n, rfl, hn2⟩ := z_suc hn
      obtain ⟨R, r1, r2⟩ := z_planIsTrue (F := F) hB.2.2.2.1 hB.2.1 hK (show i < m by omega) hN
      obtain ⟨R2, r3, r4⟩ := ih (i + 1) n R (by omega) (by omega) r2
      refine ⟨R2, ?_, r4⟩
      rw [fl_X5_isSound_2, hK1, if_neg (nI_ge (show i < m by omega) (by omega)), nI_1, r1]
      exact r3
  obtain ⟨R, r1, r2⟩ := L m 0 1000 N (by omega) (by omega) hN
  refine ⟨R, ?_, r2⟩
  unfold f_X5_isSound
  refine Option.bind_eq_some_iff.mpr ⟨_, r1, ?_⟩
  show ((f_X0_isTrue B).bind fun x_6 => (if x_6 = 0 then some ((0 : Int32), R) else (if (f_X3_isTrue q_T0) = 0 then some (0, R) else some (1, R)))) = _
  rw [z_isTrue hB]
  rfl
