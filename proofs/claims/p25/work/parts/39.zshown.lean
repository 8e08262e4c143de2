/-! a line is shown -/
theorem z_max {q : Nat} (hq : q < 2 ^ 31) : (if (0 : Int32) < nI q then nI q else 0) = nI q := by
  by_cases h : q = 0
  · subst h
    rfl
  · rw [if_pos (show (0 : Int32) < nI q from nI_lt (a := 0) (by omega) hq)]
theorem z_sh57 {F : q_Fl} {B : q_Bd} {K : q_Bk} {l : Nat} {so : Nat → Int32} {x1 : Int32 × q_Pl} {Q : Nat} (hQ : Q ≤ 8) (hx : (if (0 : Int32) < x1.1 then x1.1 else 0) = nI Q) (hs : ∀ N, zN N → ∀ j, j < 2 ^ 31 → ∃ R, f_X5_step F B K N (nI l) (nI j) = some (so j, R) ∧ zN R) :
    ∀ d k n N A, k + d = Q → d < n → zN N → ∃ R A', fl_L_isShown_57 (nI l) F B K x1 n (nI k) N A = some (nI Q, R, A') ∧ zN R ∧ ∀ j, (j < k → A' j = A j) ∧ (k ≤ j → j < Q → A' j = so j) := by
  intro d
  induction d with
  | zero =>
    intro k n N A hk hn hN
    obtain ⟨n, rfl, -⟩ := z_suc hn
    obtain rfl : k = Q := by omega
    refine ⟨N, A, ?_, hN, fun j => ⟨fun _ => rfl, fun h1 h2 => absurd h1 (by omega)⟩⟩
    rw [fl_L_isShown_57, hx, nI_clamp (by omega)]
    exact if_pos (nI_le (Nat.le_refl _) (by omega))
  | succ d ih =>
    intro k n N A hk hn hN
    obtain ⟨n, rfl, hn2⟩ := z_suc hn
    obtain ⟨R1, r1, r2⟩ := hs N hN k (by omega)
    obtain ⟨R2, A2, s1, s2, s3⟩ := ih (k + 1) n R1 (upd A k (so k)) (by omega) (by omega) r2
    refine ⟨R2, A2, ?_, s2, fun j => ⟨fun h => ?_, fun h1 h2 => ?_⟩⟩
    · rw [fl_L_isShown_57, hx, nI_clamp (by omega), if_neg (nI_ge (show k < Q by omega) (by omega)), r1, Option.bind_some]
      refine (if_pos (zq_ix (show k < Q by omega) (by omega))).trans ?_
      rw [nI_clamp (by omega), nI_1]
      exact s1
    · rw [(s3 j).1 (by omega), pk_un (by omega)]
    · by_cases q : j = k
      · subst q
        rw [(s3 j).1 (by omega), pk_us]
      · exact (s3 j).2 (by omega) h2
theorem z_sh86 {B : q_Bd} {w : Nat} (hB : B.2.2.1 = nI w) (hw : w ≤ 8) : ∀ d k n A, k + d = w → d < n → ∃ A', fl_L_isShown_86 (nI w) B n (nI k) A = some (nI w, A') ∧ ∀ j, (j < k → A' j = A j) ∧ (k ≤ j → j < w → A' j = f_X5_setIn B.2.2.2.1 (nI j)) := by
  intro d
  induction d with
  | zero =>
    intro k n A hk hn
    obtain ⟨n, rfl, -⟩ := z_suc hn
    obtain rfl : k = w := by omega
    refine ⟨A, ?_, fun j => ⟨fun _ => rfl, fun h1 h2 => absurd h1 (by omega)⟩⟩
    rw [fl_L_isShown_86]
    exact if_pos (nI_le (Nat.le_refl _) (by omega))
  | succ d ih =>
    intro k n A hk hn
    obtain ⟨n, rfl, hn2⟩ := z_suc hn
    obtain ⟨A2, s1, s3⟩ := ih (k + 1) n (upd A k (f_X5_setIn B.2.2.2.1 (nI k))) (by omega) (by omega)
    refine ⟨A2, ?_, fun j => ⟨fun h => ?_, fun h1 h2 => ?_⟩⟩
    · rw [fl_L_isShown_86, if_neg (nI_ge (show k < w by omega) (by omega)), z_col0 hB hw (show k < w by omega), Option.bind_some]
      refine (if_pos (by rw [nI_clamp (by omega)]; exact zq_ix (show k < w by omega) (by omega))).trans ?_
      rw [nI_clamp (by omega), nI_1]
      exact s1
    · rw [(s3 j).1 (by omega), pk_un (by omega)]
    · by_cases q : j = k
      · subst q
        rw [(s3 j).1 (by omega), pk_us]
      · exact (s3 j).2 (by omega) h2
theorem z_sh113 {F : q_Fl} {B : q_Bd} {K : q_Bk} {w m l : Nat} {ln : Nat → Nat} (hB : B.2.2.1 = nI w) (hw : w ≤ 8) (hK : zK m ln K) (hl : l < m) (N : q_Pl) : ∀ d k n A, k + d = m → d < n → ∃ A', fl_L_isShown_113 (nI l) F B K (nI m) n (nI k) N A = some (nI m, N, A') ∧ ∀ j, (j < k → A' j = A j) ∧ (k ≤ j → j < m → A' j = 0 → j ≠ l ∧ ¬ zsay w ln K B.2.2.2.1 j) := by
  have hm := hK.2.1
  intro d
  induction d with
  | zero =>
    intro k n A hk hn
    obtain ⟨n, rfl, -⟩ := z_suc hn
    obtain rfl : k = m := by omega
    refine ⟨A, ?_, fun j => ⟨fun _ => rfl, fun h1 h2 => absurd h1 (by omega)⟩⟩
    rw [fl_L_isShown_113]
    exact if_pos (nI_le (Nat.le_refl _) (by omega))
  | succ d ih =>
    intro k n A hk hn
    obtain ⟨n, rfl, hn2⟩ := z_suc hn
    have hix : q_ix (nI k) (nI m).toNatClampNeg = true := by rw [nI_clamp (by omega)]; exact zq_ix (show k < m by omega) (by omega)
    have key : ∀ v : Int32, fl_L_isShown_113 (nI l) F B K (nI m) (n + 1) (nI k) N A = fl_L_isShown_113 (nI l) F B K (nI m) n (nI (k + 1)) N (upd A k v) → (v = 0 → k ≠ l ∧ ¬ zsay w ln K B.2.2.2.1 k) → ∃ A', fl_L_isShown_113 (nI l) F B K (nI m) (n + 1) (nI k) N A = some (nI m, N, A') ∧ ∀ j, (j < k → A' j = A j) ∧ (k ≤ j → j < m → A' j = 0 → j ≠ l ∧ ¬ zsay w ln K B.2.2.2.1 j) := by
      intro v e hv
      obtain ⟨A2, s1, s3⟩ := ih (k + 1) n (upd A k v) (by omega) (by omega)
      refine ⟨A2, e.trans s1, fun j => ⟨fun h => ?_, fun h1 h2 h3 => ?_⟩⟩
      · rw [(s3 j).1 (by omega), pk_un (by omega)]
      · by_cases q : j = k
        · subst q
          rw [(s3 j).1 (by omega), pk_us] at h3
          exact hv h3
        · exact (s3 j).2 (by omega) h2 h3
    by_cases q : k = l
    · refine key 1 ?_ (fun h => absurd h (by decide))
      rw [fl_L_isShown_113, if_neg (nI_ge (show k < m by omega) (by omega)), if_pos (by rw [q]), if_pos hix, nI_clamp (by omega), nI_1]
    · have qn : ¬ nI k = nI l := by rw [nI_eq (by omega) (by omega)]; exact q
      rcases z_of5 (F := F) hB hw hK (show k < m by omega) with ⟨hs, es⟩ | ⟨hs, es⟩
      · refine key 1 ?_ (fun h => absurd h (by decide))
        rw [fl_L_isShown_113, if_neg (nI_ge (show k < m by omega) (by omega)), if_neg qn, es, Option.bind_some]
        refine (if_pos rfl).trans ((if_pos hix).trans ?_)
        rw [nI_clamp (by omega), nI_1]
      · refine key 0 ?_ (fun _ => ⟨q, hs⟩)
        rw [fl_L_isShown_113, if_neg (nI_ge (show k < m by omega) (by omega)), if_neg qn, es, Option.bind_some]
        refine (if_neg (show ¬ ((0 : Int32), N).1 = 1 from (by decide : ¬ (0 : Int32) = 1))).trans ((if_pos hix).trans ?_)
        rw [nI_clamp (by omega), nI_1]
theorem z_bitE {a : Nat} (ha : a < 256) {h : Nat} (hh : h < 8) : ((nI a >>> (nI h &&& 31)) &&& 1 = 0 ↔ a.testBit h = false) ∧ ((nI a >>> (nI h &&& 31)) &&& 1 = 1 ↔ a.testBit h = true) := by
  rw [z_bit32 ha hh]
  by_cases q : a.testBit h = true
  · rw [if_pos q, q]
    exact ⟨⟨fun h => absurd h (by decide), fun h => absurd h (by decide)⟩, ⟨fun _ => rfl, fun _ => rfl⟩⟩
  · rw [if_neg q]
    simp only [Bool.not_eq_true] at q
    rw [q]
    exact ⟨⟨fun _ => rfl, fun _ => rfl⟩, ⟨fun h => absurd h (by decide), fun h => absurd h (by decide)⟩⟩
theorem z_sh353 {w : Nat} (hw : w ≤ 8) {z11 : Int32 × q_Pl × q_IA} {z12 : Int32 × q_IA} {x14 : Int32 × q_Fl × q_Bd × q_Pl} {i11 i12 : Int32} {dn : Nat} (hdn : dn < 256) (hor : i11 ||| (z11.2.2 i12.toNatClampNeg) = nI dn) (hB : x14.2.2.1.2.2.1 = nI w) : ∀ d k n A, k + d = w → d < n → ∃ A', fl_L_isShown_353 (nI w) z11 z12 x14 i11 i12 n (nI k) A = some (nI w, A') ∧ ∀ j, (j < k → A' j = A j) ∧ (k ≤ j → j < w → A' j = if dn.testBit j = true then f_X5_setIn x14.2.2.1.2.2.2.1 (nI j) else z12.2 j) := by
  intro d
  induction d with
  | zero =>
    intro k n A hk hn
    obtain ⟨n, rfl, -⟩ := z_suc hn
    obtain rfl : k = w := by omega
    refine ⟨A, ?_, fun j => ⟨fun _ => rfl, fun h1 h2 => absurd h1 (by omega)⟩⟩
    rw [fl_L_isShown_353]
    exact if_pos (nI_le (Nat.le_refl _) (by omega))
  | succ d ih =>
    intro k n A hk hn
    obtain ⟨n, rfl, hn2⟩ := z_suc hn
    have hix : q_ix (nI k) (nI w).toNatClampNeg = true := by rw [nI_clamp (by omega)]; exact zq_ix (show k < w by omega) (by omega)
    obtain ⟨A2, s1, s3⟩ := ih (k + 1) n (upd A k (if dn.testBit k = true then f_X5_setIn x14.2.2.1.2.2.2.1 (nI k) else z12.2 k)) (by omega) (by omega)
    refine ⟨A2, ?_, fun j => ⟨fun h => ?_, fun h1 h2 => ?_⟩⟩
    · rw [fl_L_isShown_353, if_neg (nI_ge (show k < w by omega) (by omega)), hor]
      have hb := (z_bitE hdn (show k < 8 by omega)).2
      by_cases q : dn.testBit k = true
      · rw [if_pos (hb.mpr q), z_col0 hB hw (show k < w by omega), Option.bind_some]
        refine (if_pos hix).trans ?_
        rw [if_pos q] at s1
        rw [nI_clamp (by omega), nI_1]
        exact s1
      · rw [if_neg (mt hb.mp q), if_pos hix]
        rw [if_neg q] at s1
        rw [nI_clamp (by omega), nI_1]
        exact s1
    · rw [(s3 j).1 (by omega), pk_un (by omega)]
    · by_cases q : j = k
      · subst q
        rw [(s3 j).1 (by omega), pk_us]
      · exact (s3 j).2 (by omega) h2
theorem z_sh285 {w : Nat} (hw : w ≤ 8) {x1 : Int32 × q_Pl} {z11 : Int32 × q_Pl × q_IA} {z12 : Int32 × q_IA} {x14 : Int32 × q_Fl × q_Bd × q_Pl} {i11 i12 : Int32} {N : q_Pl} {dn : Nat} (hdn : dn < 256) (hor : i11 ||| (z11.2.2 i12.toNatClampNeg) = nI dn) (hB : x14.2.2.1.2.2.1 = nI w) (h : i12 = (x1.1 - 1) → ∀ j, j < w → dn.testBit j = false → f_X5_setIn x14.2.2.1.2.2.2.1 (nI j) = z12.2 j) : ∀ d k n, k + d = w → d < n → ∃ x, fl_L_isShown_285 (nI w) x1 z11 z12 x14 i11 i12 N n (nI k) = some (.inr x) := by
  intro d
  induction d with
  | zero =>
    intro k n hk hn
    obtain ⟨n, rfl, -⟩ := z_suc hn
    obtain rfl : k = w := by omega
    refine ⟨nI k, ?_⟩
    rw [fl_L_isShown_285]
    exact if_pos (nI_le (Nat.le_refl _) (by omega))
  | succ d ih =>
    intro k n hk hn
    obtain ⟨n, rfl, hn2⟩ := z_suc hn
    obtain ⟨x, go⟩ := ih (k + 1) n (by omega) (by omega)
    rw [fl_L_isShown_285, if_neg (nI_ge (show k < w by omega) (by omega)), hor]
    by_cases q : i12 = (x1.1 - 1)
    · refine ⟨x, ?_⟩
      rw [if_pos q]
      have hb := (z_bitE hdn (show k < 8 by omega)).1
      by_cases q2 : dn.testBit k = false
      · rw [if_pos (hb.mpr q2), z_col0 hB hw (show k < w by omega), Option.bind_some]
        refine (if_pos (by rw [nI_clamp (by omega)]; exact zq_ix (show k < w by omega) (by omega))).trans ?_
        refine (if_pos (by rw [nI_clamp (by omega)]; exact h q k (by omega) q2)).trans ?_
        rw [nI_1]
        exact go
      · rw [if_neg (mt hb.mp q2), nI_1]
        exact go
    · exact ⟨nI k, if_neg q⟩
