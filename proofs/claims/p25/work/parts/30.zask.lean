/-! distances, offsets, readings -/
theorem z_m1_ne {n : Nat} (h : n < 2 ^ 31) : nI n ≠ -1 := by
  intro e
  have h1 := congrArg Int32.toInt e
  rw [nI_toInt h, show (-1 : Int32).toInt = -1 by decide] at h1
  omega
theorem z_lesser {a b : Nat} (ha : a < 2 ^ 31) (hb : b < 2 ^ 31) : f_X5_lesser (nI a) (nI b) = nI (if a ≤ b then a else b) := by
  unfold f_X5_lesser
  rw [if_neg (z_m1_ne ha), if_neg (z_m1_ne hb)]
  by_cases q : a ≤ b
  · rw [if_pos (nI_le q hb), if_pos q]
  · rw [if_neg (nI_ge (show b < a by omega) ha), if_neg q]
theorem z_lo {B : q_Bd} {K : q_Bk} {w m : Nat} {ln : Nat → Nat} (hB : B.2.2.1 = nI w) (hw : w ≤ 8) (hK : zK m ln K) {k : Nat} (hk : k < m) {o : Nat} (ho : o ≤ 1000) : f_X5_lastOffset B K (nI k) < nI o ↔ w < ln k + o := by
  obtain ⟨-, hm, h⟩ := hK
  obtain ⟨h1, h2, -⟩ := h k hk
  unfold f_X5_lastOffset
  rw [if_neg (nI_pos (by omega)), if_neg (nI_ge (show k < 8 by omega) (by decide)), nI_clamp (by omega), hB, h1, Int32.lt_iff_toInt_lt, pk_sub_toInt (by omega) (by omega), nI_toInt (by omega)]
  omega
def zDI (K : q_Bk) (k : Nat) (P : Int64) (o : Nat) (v : Int32) : Prop :=
  (o = 0 ∧ v = -1) ∨ (0 < o ∧ ∃ q, q ≤ 64 ∧ v = nI q ∧ (q = 0 ↔ ∃ o', o' < o ∧ P = f_X1_placed K (nI k) (nI o')))
theorem z_dist0 {B : q_Bd} {K : q_Bk} {w m : Nat} {ln : Nat → Nat} (hB : B.2.2.1 = nI w) (hw : w ≤ 8) (hK : zK m ln K) {k : Nat} (hk : k < m) (P : Int64) : ∃ v, f_X5_distance B K P (nI k) = some v ∧ zDI K k P (w + 1 - ln k) v := by
  have L : ∀ d o n v, o + d = w + 1 - ln k → d < n → zDI K k P o v → ∃ v' i', fl_X5_distance_6 P (nI k) B K n v (nI o) = some (v', i') ∧ zDI K k P (w + 1 - ln k) v' := by
    intro d
    induction d with
    | zero =>
      intro o n v ho hn hv
      obtain ⟨n, rfl, -⟩ := z_suc hn
      obtain rfl : o = w + 1 - ln k := by omega
      rw [fl_X5_distance_6]
      exact ⟨_, _, if_pos ((z_lo hB hw hK hk (by omega)).mpr (by omega)), hv⟩
    | succ d ih =>
      intro o n v ho hn hv
      obtain ⟨n, rfl, hn2⟩ := z_suc hn
      rw [fl_X5_distance_6, if_neg (mt (z_lo hB hw hK hk (by omega)).mp (by omega)), zpc, nI_1]
      apply ih (o + 1) n _ (by omega) (by omega)
      have hct := zct_le (P ^^^ f_X1_placed K (nI k) (nI o))
      have h0 := zct_0 P (f_X1_placed K (nI k) (nI o))
      generalize fb_ct (zb (P ^^^ f_X1_placed K (nI k) (nI o))) 64 = ct at hct h0 ⊢
      right
      refine ⟨by omega, ?_⟩
      rcases hv with ⟨rfl, rfl⟩ | ⟨ho0, q, hq, rfl, hq2⟩
      · refine ⟨ct, hct, if_pos rfl, ?_⟩
        rw [h0]
        constructor
        · intro e
          exact ⟨0, by omega, e⟩
        · rintro ⟨o', ho', e⟩
          obtain rfl : o' = 0 := by omega
          exact e
      · refine ⟨if q ≤ ct then q else ct, by split <;> omega, z_lesser (by omega) (by omega), ?_⟩
        constructor
        · intro e
          by_cases q5 : q ≤ ct
          · rw [if_pos q5] at e
            obtain ⟨o', h1, h2⟩ := hq2.mp e
            exact ⟨o', by omega, h2⟩
          · rw [if_neg q5] at e
            exact ⟨o, by omega, h0.mp e⟩
        · rintro ⟨o', ho', e⟩
          by_cases q5 : o' = o
          · subst q5
            have := h0.mpr e
            split <;> omega
          · have := hq2.mpr ⟨o', by omega, e⟩
            split <;> omega
  unfold f_X5_distance
  obtain ⟨v', i', h1, h2⟩ := L (w + 1 - ln k) 0 1000 (-1) (by omega) (by omega) (Or.inl ⟨rfl, rfl⟩)
  exact ⟨v', Option.bind_eq_some_iff.mpr ⟨_, h1, rfl⟩, h2⟩
/-- a picture says a line -/
def zsay (w : Nat) (ln : Nat → Nat) (K : q_Bk) (P : Int64) (k : Nat) : Prop := ∃ o, ln k + o ≤ w ∧ P = f_X1_placed K (nI k) (nI o)
theorem z_dist {B : q_Bd} {K : q_Bk} {w m : Nat} {ln : Nat → Nat} (hB : B.2.2.1 = nI w) (hw : w ≤ 8) (hK : zK m ln K) {k : Nat} (hk : k < m) (P : Int64) : ∃ v, f_X5_distance B K P (nI k) = some v ∧ (v = -1 ∨ ∃ q, q ≤ 64 ∧ v = nI q) ∧ (v = 0 ↔ zsay w ln K P k) := by
  obtain ⟨v, h1, h2⟩ := z_dist0 hB hw hK hk P
  refine ⟨v, h1, ?_⟩
  rcases h2 with ⟨h3, rfl⟩ | ⟨h3, q, hq, rfl, h4⟩
  · refine ⟨Or.inl rfl, ?_⟩
    constructor
    · intro e
      exact absurd e (by decide)
    · rintro ⟨o, ho, -⟩
      omega
  · refine ⟨Or.inr ⟨q, hq, rfl⟩, ?_⟩
    have e : nI q = 0 ↔ q = 0 := nI_eq (b := 0) (by omega) (by decide)
    rw [e, h4]
    constructor
    · rintro ⟨o, ho, e⟩
      exact ⟨o, by omega, e⟩
    · rintro ⟨o, ho, e⟩
      exact ⟨o, by omega, e⟩
theorem z_says {B : q_Bd} {K : q_Bk} {w m : Nat} {ln : Nat → Nat} (hB : B.2.2.1 = nI w) (hw : w ≤ 8) (hK : zK m ln K) {k : Nat} (hk : k < m) (P : Int64) : (zsay w ln K P k ∧ f_X5_says B K P (nI k) = some 1) ∨ (¬ zsay w ln K P k ∧ f_X5_says B K P (nI k) = some 0) := by
  obtain ⟨v, h1, -, h2⟩ := z_dist hB hw hK hk P
  unfold f_X5_says
  rw [h1]
  show (_ ∧ (if v = 0 then some (1 : Int32) else some 0) = _) ∨ (_ ∧ (if v = 0 then some (1 : Int32) else some 0) = _)
  by_cases q : v = 0
  · exact Or.inl ⟨h2.mp q, if_pos q⟩
  · exact Or.inr ⟨mt h2.mpr q, if_neg q⟩
/-! how a picture is read -/
def zRI (D : Nat → Option Int32) (i : Nat) (rd le : Int32) : Prop :=
  (le = -1 ∧ rd = -1 ∧ ∀ k, k < i → D k = some (-1)) ∨ ∃ q, q ≤ 64 ∧ le = nI q ∧ (∀ k, k < i → ∀ v, D k = some v → v = -1 ∨ ∃ p, p ≤ 64 ∧ v = nI p ∧ q ≤ p) ∧ (rd = -1 ∨ ∃ j, j < i ∧ rd = nI j ∧ D j = some (nI q) ∧ ∀ k, k < i → k ≠ j → ∀ v, D k = some v → v = -1 ∨ ∃ p, p ≤ 64 ∧ v = nI p ∧ q < p)
theorem z_readAs0 {F : q_Fl} {B : q_Bd} {K : q_Bk} {P : Int64} {m : Nat} (hm : m ≤ 8) (hK : K.2.2.2.2.2.2 = nI m) (hD : ∀ k, k < m → ∃ v, f_X5_distance B K P (nI k) = some v ∧ (v = -1 ∨ ∃ q, q ≤ 64 ∧ v = nI q)) :
    ∃ r, f_X5_readAs F B K P = some r ∧ (r = -1 ∨ ∃ j q, j < m ∧ r = nI j ∧ q ≤ 64 ∧ f_X5_distance B K P (nI j) = some (nI q) ∧ nI q ≤ F.2.1 ∧ ∀ k, k < m → k ≠ j → ∀ v, f_X5_distance B K P (nI k) = some v → v = -1 ∨ ∃ p, p ≤ 64 ∧ v = nI p ∧ q < p) := by
  generalize hDD : (fun k => f_X5_distance B K P (nI k)) = D
  have hDk : ∀ k, f_X5_distance B K P (nI k) = D k := fun k => congrFun hDD k
  have L : ∀ d i n rd le, i + d = m → d < n → zRI D i rd le → ∃ rd' le', fl_X5_readAs_8 P B K n rd le (nI i) = some (rd', le', nI m) ∧ zRI D m rd' le' := by
    intro d
    induction d with
    | zero =>
      intro i n rd le hi hn hv
      obtain ⟨n, rfl, -⟩ := z_suc hn
      obtain rfl : i = m := by omega
      rw [fl_X5_readAs_8, hK]
      exact ⟨_, _, if_pos (nI_le (Nat.le_refl _) (by omega)), hv⟩
    | succ d ih =>
      intro i n rd le hi hn hv
      obtain ⟨n, rfl, hn2⟩ := z_suc hn
      obtain ⟨v, e, hv2⟩ := hD i (by omega)
      rw [fl_X5_readAs_8, hK, if_neg (nI_ge (show i < m by omega) (by omega)), e, nI_1]
      rw [hDk] at e
      show ∃ rd' le', (if v = (-1) then (if v = (-1) then fl_X5_readAs_8 P B K n rd le (nI (i + 1)) else (if le = (-1) then fl_X5_readAs_8 P B K n (nI i) v (nI (i + 1)) else (if le ≤ v then fl_X5_readAs_8 P B K n rd le (nI (i + 1)) else fl_X5_readAs_8 P B K n (nI i) v (nI (i + 1))))) else (if v = le then fl_X5_readAs_8 P B K n (-1) le (nI (i + 1)) else (if v = (-1) then fl_X5_readAs_8 P B K n rd le (nI (i + 1)) else (if le = (-1) then fl_X5_readAs_8 P B K n (nI i) v (nI (i + 1)) else (if le ≤ v then fl_X5_readAs_8 P B K n rd le (nI (i + 1)) else fl_X5_readAs_8 P B K n (nI i) v (nI (i + 1))))))) = some (rd', le', nI m) ∧ zRI D m rd' le'
      rcases hv2 with rfl | ⟨p, hp, rfl⟩
      · rw [if_pos rfl, if_pos rfl]
        apply ih (i + 1) n rd le (by omega) (by omega)
        rcases hv with ⟨h1, h2, h3⟩ | ⟨q, hq, h1, h2, h3⟩
        · exact Or.inl ⟨h1, h2, lt_s h3 e⟩
        · refine Or.inr ⟨q, hq, h1, lt_s h2 (fun v hv => ?_), ?_⟩
          · rw [e] at hv
            exact Or.inl (Option.some.inj hv).symm
          · rcases h3 with h3 | ⟨j, hj, h4, h5, h6⟩
            · exact Or.inl h3
            · refine Or.inr ⟨j, by omega, h4, h5, lt_s h6 (fun _ v hv => ?_)⟩
              rw [e] at hv
              exact Or.inl (Option.some.inj hv).symm
      · rw [if_neg (z_m1_ne (by omega))]
        rcases hv with ⟨rfl, rfl, h3⟩ | ⟨q, hq, rfl, h2, h3⟩
        · rw [if_neg (z_m1_ne (by omega)), if_neg (z_m1_ne (by omega)), if_pos rfl]
          apply ih (i + 1) n _ _ (by omega) (by omega)
          refine Or.inr ⟨p, hp, rfl, lt_s (fun k hk v hv => ?_) (fun v hv => ?_), Or.inr ⟨i, by omega, rfl, e, fun k hk hki v hv => ?_⟩⟩
          · rw [h3 k hk] at hv
            exact Or.inl (Option.some.inj hv).symm
          · rw [e] at hv
            exact Or.inr ⟨p, hp, (Option.some.inj hv).symm, Nat.le_refl p⟩
          · rw [h3 k (by omega)] at hv
            exact Or.inl (Option.some.inj hv).symm
        · by_cases q1 : p = q
          · subst q1
            rw [if_pos rfl]
            apply ih (i + 1) n _ _ (by omega) (by omega)
            refine Or.inr ⟨p, hp, rfl, lt_s h2 (fun v hv => ?_), Or.inl rfl⟩
            rw [e] at hv
            exact Or.inr ⟨p, hp, (Option.some.inj hv).symm, Nat.le_refl p⟩
          · rw [if_neg (by rw [nI_eq (by omega) (by omega)]; exact q1), if_neg (z_m1_ne (by omega)), if_neg (z_m1_ne (by omega))]
            by_cases q2 : q ≤ p
            · rw [if_pos (nI_le q2 (by omega))]
              apply ih (i + 1) n _ _ (by omega) (by omega)
              refine Or.inr ⟨q, hq, rfl, lt_s h2 (fun v hv => ?_), ?_⟩
              · rw [e] at hv
                exact Or.inr ⟨p, hp, (Option.some.inj hv).symm, q2⟩
              · rcases h3 with h3 | ⟨j, hj, h4, h5, h6⟩
                · exact Or.inl h3
                · refine Or.inr ⟨j, by omega, h4, h5, lt_s h6 (fun _ v hv => ?_)⟩
                  rw [e] at hv
                  exact Or.inr ⟨p, hp, (Option.some.inj hv).symm, by omega⟩
            · rw [if_neg (nI_ge (show p < q by omega) (by omega))]
              apply ih (i + 1) n _ _ (by omega) (by omega)
              refine Or.inr ⟨p, hp, rfl, lt_s (fun k hk v hv => ?_) (fun v hv => ?_), Or.inr ⟨i, by omega, rfl, e, fun k hk hki v hv => ?_⟩⟩
              · rcases h2 k hk v hv with h | ⟨p', h7, h8, h9⟩
                · exact Or.inl h
                · exact Or.inr ⟨p', h7, h8, by omega⟩
              · rw [e] at hv
                exact Or.inr ⟨p, hp, (Option.some.inj hv).symm, Nat.le_refl p⟩
              · rcases h2 k (by omega) v hv with h | ⟨p', h7, h8, h9⟩
                · exact Or.inl h
                · exact Or.inr ⟨p', h7, h8, by omega⟩
  obtain ⟨rd', le', h1, h2⟩ := L m 0 1000 (-1) (-1) (by omega) (by omega) (Or.inl ⟨rfl, rfl, fun k hk => absurd hk (Nat.not_lt_zero k)⟩)
  unfold f_X5_readAs
  refine ⟨if F.2.1 < le' then -1 else rd', Option.bind_eq_some_iff.mpr ⟨_, h1, ?_⟩, ?_⟩
  · show (if F.2.1 < le' then some (-1 : Int32) else some rd') = _
    split <;> rfl
  · by_cases q5 : F.2.1 < le'
    · exact Or.inl (if_pos q5)
    · rw [if_neg q5]
      rcases h2 with ⟨-, h2, -⟩ | ⟨q, hq, rfl, h3, h4⟩
      · exact Or.inl h2
      · rcases h4 with h4 | ⟨j, hj, h5, h6, h7⟩
        · exact Or.inl h4
        · refine Or.inr ⟨j, q, hj, h5, hq, (hDk j).trans h6, fa_of_nlt q5, fun k hk hkj v hv => h7 k hk hkj v ?_⟩
          rw [← hDk]
          exact hv
theorem z_readAs {F : q_Fl} {B : q_Bd} {K : q_Bk} {w m : Nat} {ln : Nat → Nat} (hB : B.2.2.1 = nI w) (hw : w ≤ 8) (hK : zK m ln K) (P : Int64) :
    ∃ r, f_X5_readAs F B K P = some r ∧ (r = -1 ∨ ∃ j q, j < m ∧ r = nI j ∧ q ≤ 64 ∧ f_X5_distance B K P (nI j) = some (nI q) ∧ nI q ≤ F.2.1 ∧ ∀ k, k < m → k ≠ j → ∀ v, f_X5_distance B K P (nI k) = some v → v = -1 ∨ ∃ p, p ≤ 64 ∧ v = nI p ∧ q < p) :=
  z_readAs0 hK.2.1 hK.1 (fun k hk => by
    obtain ⟨v, h1, h2, -⟩ := z_dist hB hw hK hk P
    exact ⟨v, h1, h2⟩)
/-! the best offset -/
theorem z_best {B : q_Bd} {K : q_Bk} {w m : Nat} {ln : Nat → Nat} (hB : B.2.2.1 = nI w) (hw : w ≤ 8) (hK : zK m ln K) {k : Nat} (hk : k < m) : (f_X5_bestOffset B K (nI k) = some (-1) ∧ w < ln k) ∨ ∃ o, ln k + o ≤ w ∧ f_X5_bestOffset B K (nI k) = some (nI o) := by
  have L : ∀ d o n b h, o + d = w + 1 - ln k → d < n → ((b = -1 ∧ o = 0) ∨ ∃ o', o' < o ∧ b = nI o') → ∃ b' h' i', fl_X5_bestOffset_7 (nI k) B K n b h (nI o) = some (b', h', i') ∧ ((b' = -1 ∧ w + 1 - ln k = 0) ∨ ∃ o', o' < w + 1 - ln k ∧ b' = nI o') := by
    intro d
    induction d with
    | zero =>
      intro o n b h ho hn hv
      obtain ⟨n, rfl, -⟩ := z_suc hn
      obtain rfl : o = w + 1 - ln k := by omega
      rw [fl_X5_bestOffset_7]
      exact ⟨_, _, _, if_pos ((z_lo hB hw hK hk (by omega)).mpr (by omega)), hv⟩
    | succ d ih =>
      intro o n b h ho hn hv
      obtain ⟨n, rfl, hn2⟩ := z_suc hn
      rw [fl_X5_bestOffset_7, if_neg (mt (z_lo hB hw hK hk (by omega)).mp (by omega)), nI_1]
      by_cases q1 : b = (-1)
      · rw [if_pos q1]
        exact ih (o + 1) n _ _ (by omega) (by omega) (Or.inr ⟨o, by omega, rfl⟩)
      · rw [if_neg q1]
        by_cases q2 : h ≤ f_X5_harm B K (nI k) (nI o)
        · rw [if_pos q2]
          refine ih (o + 1) n _ _ (by omega) (by omega) (Or.inr ?_)
          rcases hv with ⟨h1, -⟩ | ⟨o', h1, h2⟩
          · exact absurd h1 q1
          · exact ⟨o', by omega, h2⟩
        · rw [if_neg q2]
          exact ih (o + 1) n _ _ (by omega) (by omega) (Or.inr ⟨o, by omega, rfl⟩)
  obtain ⟨b', h', i', h1, h2⟩ := L (w + 1 - ln k) 0 1000 (-1) (-1) (by omega) (by omega) (Or.inl ⟨rfl, rfl⟩)
  unfold f_X5_bestOffset
  replace h1 : fl_X5_bestOffset_7 (nI k) B K 1000 (-1) (-1) 0 = some (b', h', i') := h1
  rw [h1]
  show (some b' = _ ∧ _) ∨ ∃ o, _ ∧ some b' = _
  rcases h2 with ⟨rfl, h3⟩ | ⟨o', h3, rfl⟩
  · exact Or.inl ⟨rfl, by omega⟩
  · exact Or.inr ⟨o', by omega, rfl⟩
theorem z_best_cong {B B' : q_Bd} (K : q_Bk) (h1 : B'.2.2.1 = B.2.2.1) (h2 : B'.2.2.2.2.1 = B.2.2.2.2.1) (h3 : B'.2.2.2.2.2 = B.2.2.2.2.2) (x : Int32) : f_X5_bestOffset B' K x = f_X5_bestOffset B K x := by
  have e1 : ∀ x, f_X5_lastOffset B' K x = f_X5_lastOffset B K x := by
    intro x
    unfold f_X5_lastOffset
    rw [h1]
  have e2 : ∀ x o, f_X5_harm B' K x o = f_X5_harm B K x o := by
    intro x o
    unfold f_X5_harm
    rw [h2, h3]
  have L : ∀ n i j k, fl_X5_bestOffset_7 x B' K n i j k = fl_X5_bestOffset_7 x B K n i j k := by
    intro n
    induction n with
    | zero => intros; rfl
    | succ n ih =>
      intro i j k
      rw [fl_X5_bestOffset_7, fl_X5_bestOffset_7, e1, e2, ih, ih]
  unfold f_X5_bestOffset
  rw [L]
/-! where lines lie -/
theorem z_placed {m : Nat} {ln : Nat → Nat} {K : q_Bk} (hK : zK m ln K) {k : Nat} (hk : k < m) (o : Nat) : f_X1_placed K (nI k) (nI o) = K.2.2.2.2.1 k <<< ((nI (5 * o)).toInt64 &&& 63) := by
  have hm := hK.2.1
  unfold f_X1_placed
  rw [if_neg (nI_pos (by omega)), if_neg (nI_ge (show k < 8 by omega) (by decide)), nI_clamp (by omega), z5]
theorem z_placed_b {m : Nat} {ln : Nat → Nat} {K : q_Bk} (hK : zK m ln K) {k : Nat} (hk : k < m) {w o : Nat} (ho : ln k + o ≤ w) (hw : w ≤ 8) : ∀ i, 5 * w ≤ i → zb (f_X1_placed K (nI k) (nI o)) i = false := by
  intro i hi
  by_cases q : i < 64
  · rw [z_placed hK hk, zb_shl _ _ (by omega) q, (hK.2.2 k hk).2.2 _ (by omega), Bool.and_false]
  · exact zb_big (by omega)
theorem z_goal_b {w t m : Nat} {fl wr ln : Nat → Nat} {B : q_Bd} {K : q_Bk} (hB : zB w t fl wr B) (hK : zK m ln K) {k : Nat} (hk : k < m) {o : Nat} (ho : ln k + o ≤ w) : f_X0_withStuck B (f_X5_goalAt B K (nI k) (nI o)) = f_X5_goalAt B K (nI k) (nI o) ∧ ∀ i, 5 * w ≤ i → zb (f_X5_goalAt B K (nI k) (nI o)) i = false := by
  refine ⟨z_ws_idem B _, ?_⟩
  obtain ⟨h4, h8, ht, hw, h1, h2, h3, h5, h6⟩ := hB
  intro i hi
  by_cases q : i < 64
  · unfold f_X5_goalAt
    rw [z_ws_bit _ _ q, z_placed_b hK hk ho h8 i hi, (h5 i hi).2]
    rfl
  · exact zb_big (by omega)
theorem z_harm0 {w t : Nat} {fl wr : Nat → Nat} {B : q_Bd} (K : q_Bk) (hB : zB w t fl wr B) {x o : Int32} (h : f_X5_harm B K x o = 0) : f_X5_goalAt B K x o = f_X1_placed K x o := by
  obtain ⟨-, -, -, -, -, -, -, -, h6⟩ := hB
  unfold f_X5_harm at h
  rw [zpc] at h
  have hc := fb_ct_le (zb ((f_X1_placed K x o ^^^ B.2.2.2.2.2) &&& B.2.2.2.2.1)) 64
  have h0 := fb_ct_zero.mp ((nI_eq (b := 0) (by omega) (by decide)).mp h)
  unfold f_X5_goalAt
  apply zb_ext
  intro i hi
  have a := h0 i hi
  have b := h6 i hi
  rw [zb_and, zb_xor] at a
  rw [z_ws_bit _ _ hi]
  generalize zb (f_X1_placed K x o) i = p at a ⊢
  generalize zb B.2.2.2.2.2 i = s at a b ⊢
  generalize zb B.2.2.2.2.1 i = u at a b ⊢
  revert a b
  cases p <;> cases s <;> cases u <;> simp
theorem z_leastHarm {B : q_Bd} {K : q_Bk} {w m : Nat} {ln : Nat → Nat} (hB : B.2.2.1 = nI w) (hw : w ≤ 8) (hK : zK m ln K) {k : Nat} (hk : k < m) : ∃ h, f_X5_leastHarm B K (nI k) = some h ∧ (h = 0 → ∃ o, f_X5_bestOffset B K (nI k) = some (nI o) ∧ ln k + o ≤ w ∧ f_X5_harm B K (nI k) (nI o) = 0) := by
  unfold f_X5_leastHarm
  rcases z_best hB hw hK hk with ⟨e, -⟩ | ⟨o, ho, e⟩
  · rw [e]
    exact ⟨-1, rfl, fun h => absurd h (by decide)⟩
  · rw [e]
    refine ⟨f_X5_harm B K (nI k) (nI o), ?_, fun h => ⟨o, rfl, ho, h⟩⟩
    show (if nI o = (-1) then some (-1 : Int32) else some (f_X5_harm B K (nI k) (nI o))) = _
    exact if_neg (z_m1_ne (by omega))
theorem z_readOfGoal {F : q_Fl} {B : q_Bd} {K : q_Bk} {w m : Nat} {ln : Nat → Nat} (hB : B.2.2.1 = nI w) (hw : w ≤ 8) (hK : zK m ln K) {k : Nat} (hk : k < m) : ∃ r, f_X5_readOfGoal F B K (nI k) = some r := by
  unfold f_X5_readOfGoal
  rcases z_best hB hw hK hk with ⟨e, -⟩ | ⟨o, ho, e⟩
  · rw [e]
    exact ⟨-1, rfl⟩
  · rw [e]
    obtain ⟨r, h1, -⟩ := z_readAs (F := F) hB hw hK (f_X5_goalAt B K (nI k) (nI o))
    refine ⟨r, ?_⟩
    show (if nI o = (-1) then some (-1 : Int32) else ((f_X5_readAs F B K (f_X5_goalAt B K (nI k) (nI o))).bind fun x_3 => some x_3)) = _
    rw [if_neg (z_m1_ne (by omega)), h1]
    rfl
