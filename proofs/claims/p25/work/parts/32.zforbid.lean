/-! pictures half way -/
def zmix (s g : Int64) (dn : Nat) (P : Int64) : Prop := dn < 256 ∧ zsub dn (zch s g) ∧ ∀ i, i < 64 → zb P i = if dn.testBit (i / 5) = true then zb g i else zb s i
theorem z_fb5 (P : Int64) (N : q_Pl) : ∀ d k n, k + d = 8 → d < n →
    (fl_X2_forbid_5 P N n (nI (zmk (fun c => !decide (f_X5_setIn P (nI c) = f_X5_setIn N.2.2.2.1 (nI c))) k)) (nI k) = some (.inl N) ∧ ∃ c, c < 8 ∧ f_X5_setIn P (nI c) ≠ f_X5_setIn N.2.2.2.1 (nI c) ∧ f_X5_setIn P (nI c) ≠ f_X5_setIn N.2.2.2.2.1 (nI c)) ∨
    (fl_X2_forbid_5 P N n (nI (zmk (fun c => !decide (f_X5_setIn P (nI c) = f_X5_setIn N.2.2.2.1 (nI c))) k)) (nI k) = some (.inr (nI (zmk (fun c => !decide (f_X5_setIn P (nI c) = f_X5_setIn N.2.2.2.1 (nI c))) 8), nI 8)) ∧ ∀ c, k ≤ c → c < 8 → f_X5_setIn P (nI c) = f_X5_setIn N.2.2.2.1 (nI c) ∨ f_X5_setIn P (nI c) = f_X5_setIn N.2.2.2.2.1 (nI c)) := by
  intro d
  induction d with
  | zero =>
    intro k n hk hn
    obtain ⟨n, rfl, -⟩ := z_suc hn
    obtain rfl : k = 8 := by omega
    right
    rw [fl_X2_forbid_5]
    exact ⟨if_pos (show (8 : Int32) ≤ nI 8 from nI_le (a := 8) (Nat.le_refl _) (by omega)), fun c h1 h2 => absurd h1 (by omega)⟩
  | succ d ih =>
    intro k n hk hn
    obtain ⟨n, rfl, hn2⟩ := z_suc hn
    have ihk := ih (k + 1) n (by omega) (by omega)
    rw [zmk] at ihk
    rw [fl_X2_forbid_5, if_neg (show ¬ (8 : Int32) ≤ nI k from nI_ge (b := 8) (by omega) (by decide))]
    by_cases q : f_X5_setIn P (nI k) = f_X5_setIn N.2.2.2.1 (nI k)
    · rw [if_pos q, nI_1]
      rw [if_neg (by rw [decide_eq_true q]; decide), Nat.or_zero] at ihk
      rcases ihk with h | ⟨h1, h2⟩
      · exact Or.inl h
      · refine Or.inr ⟨h1, fun c h3 h4 => ?_⟩
        by_cases e : c = k
        · subst e
          exact Or.inl q
        · exact h2 c (by omega) h4
    · rw [if_neg q]
      by_cases q2 : f_X5_setIn P (nI k) = f_X5_setIn N.2.2.2.2.1 (nI k)
      · rw [if_pos q2, nI_1, z_sh1 k (by omega), fa_or]
        rw [if_pos (by rw [decide_eq_false q]; rfl)] at ihk
        rcases ihk with h | ⟨h1, h2⟩
        · exact Or.inl h
        · refine Or.inr ⟨h1, fun c h3 h4 => ?_⟩
          by_cases e : c = k
          · subst e
            exact Or.inr q2
          · exact h2 c (by omega) h4
      · rw [if_neg q2]
        exact Or.inl ⟨rfl, k, by omega, q, q2⟩
theorem zmix_set {s g P : Int64} {dn : Nat} (h : zmix s g dn P) {c : Nat} (hc : c < 8) : f_X5_setIn P (nI c) = if dn.testBit c = true then f_X5_setIn g (nI c) else f_X5_setIn s (nI c) := by
  obtain ⟨-, -, h3⟩ := h
  have e : ∀ h, h < 5 → (5 * c + h) / 5 = c := by intro h hh; omega
  by_cases q : dn.testBit c = true
  · rw [if_pos q]
    exact (zs_eq _ _ (by omega)).mpr (fun h hh => by rw [h3 _ (by omega), e h hh, if_pos q])
  · rw [if_neg q]
    exact (zs_eq _ _ (by omega)).mpr (fun h hh => by rw [h3 _ (by omega), e h hh, if_neg q])
theorem zmix_mask {s g P : Int64} {dn : Nat} (h : zmix s g dn P) : zmk (fun c => !decide (f_X5_setIn P (nI c) = f_X5_setIn s (nI c))) 8 = dn := by
  have h0 := fun c (hc : c < 8) => zmix_set h hc
  obtain ⟨h1, h2, h3⟩ := h
  apply Nat.eq_of_testBit_eq
  intro i
  rw [zmk_bit]
  rcases Nat.lt_or_ge i 8 with q | q
  · rw [decide_eq_true q, Bool.true_and, h0 i q]
    by_cases q2 : dn.testBit i = true
    · rw [if_pos q2, q2]
      have h5 : ¬ f_X5_setIn g (nI i) = f_X5_setIn s (nI i) := by
        intro e
        have h6 := h2 i q2
        rw [(zch_bit s g q).mpr (fun h hh => ((zs_eq _ _ (by omega)).mp e h hh).symm)] at h6
        exact absurd h6 (by decide)
      rw [decide_eq_false h5]
      rfl
    · rw [if_neg q2, decide_eq_true rfl]
      simp [q2]
  · rw [decide_eq_false (by omega), Bool.false_and, z_hi h1 q]
theorem z_forbid (V : q_IA) (s g P : Int64) : ∃ V' : q_IA, (∀ (d pl : q_IA) (pw c st : Int32), f_X2_forbid (V, d, pl, s, g, pw, c, st) P = some (V', d, pl, s, g, pw, c, st)) ∧ (∀ j, V' j = V j ∨ (V' j = -1 ∧ j < 256)) ∧ ∀ dn, zmix s g dn P → V' dn = -1 := by
  have hm := zmk_lt (fun c => !decide (f_X5_setIn P (nI c) = f_X5_setIn s (nI c))) 8
  by_cases q : ∃ c, c < 8 ∧ f_X5_setIn P (nI c) ≠ f_X5_setIn s (nI c) ∧ f_X5_setIn P (nI c) ≠ f_X5_setIn g (nI c)
  · obtain ⟨c0, hc, n1, n2⟩ := q
    refine ⟨V, fun d pl pw c st => ?_, fun j => Or.inl rfl, fun dn hdn => ?_⟩
    · unfold f_X2_forbid
      rcases z_fb5 P (V, d, pl, s, g, pw, c, st) 8 0 1000 (by omega) (by omega) with ⟨h1, -⟩ | ⟨-, h1⟩
      · exact Option.bind_eq_some_iff.mpr ⟨_, h1, rfl⟩
      · rcases h1 c0 (Nat.zero_le _) hc with h2 | h2
        · exact absurd h2 n1
        · exact absurd h2 n2
    · exfalso
      have e := zmix_set hdn hc
      by_cases h : dn.testBit c0 = true
      · rw [if_pos h] at e
        exact n2 e
      · rw [if_neg h] at e
        exact n1 e
  · refine ⟨upd V (zmk (fun c => !decide (f_X5_setIn P (nI c) = f_X5_setIn s (nI c))) 8) (-1), fun d pl pw c st => ?_, fun j => ?_, fun dn hdn => ?_⟩
    · unfold f_X2_forbid
      rcases z_fb5 P (V, d, pl, s, g, pw, c, st) 8 0 1000 (by omega) (by omega) with ⟨-, h1⟩ | ⟨h1, -⟩
      · exact absurd h1 q
      · refine Option.bind_eq_some_iff.mpr ⟨_, h1, ?_⟩
        show some (f_X5_put 256 V (nI (zmk (fun c => !decide (f_X5_setIn P (nI c) = f_X5_setIn s (nI c))) 8)) (-1), d, pl, s, g, pw, c, st) = _
        rw [z_put hm (by decide)]
    · by_cases e : j = zmk (fun c => !decide (f_X5_setIn P (nI c) = f_X5_setIn s (nI c))) 8
      · right
        subst e
        exact ⟨pk_us, hm⟩
      · exact Or.inl (pk_un e)
    · rw [zmix_mask hdn]
      exact pk_us
/-- the places of one line are forbidden -/
theorem z_forbidPlaces {B : q_Bd} {K : q_Bk} {w m : Nat} {ln : Nat → Nat} (hB : B.2.2.1 = nI w) (hw : w ≤ 8) (hK : zK m ln K) {k : Nat} (hk : k < m) (V : q_IA) (s g : Int64) : ∃ V' : q_IA, (∀ (d pl : q_IA) (pw c st : Int32), f_X5_forbidPlacesOf B K (V, d, pl, s, g, pw, c, st) (nI k) = some (V', d, pl, s, g, pw, c, st)) ∧ (∀ j, V' j = V j ∨ (V' j = -1 ∧ j < 256)) ∧ ∀ o, ln k + o ≤ w → ∀ dn, zmix s g dn (f_X1_placed K (nI k) (nI o)) → V' dn = -1 := by
  have L : ∀ e o n (V : q_IA), o + e = w + 1 - ln k → e < n → ∃ V' : q_IA, (∀ (d pl : q_IA) (pw c st : Int32), ∃ x, fl_X5_forbidPlacesOf_2 (nI k) B K n (nI o) (V, d, pl, s, g, pw, c, st) = some (x, (V', d, pl, s, g, pw, c, st))) ∧ (∀ j, V' j = V j ∨ (V' j = -1 ∧ j < 256)) ∧ ∀ o', o ≤ o' → ln k + o' ≤ w → ∀ dn, zmix s g dn (f_X1_placed K (nI k) (nI o')) → V' dn = -1 := by
    intro e
    induction e with
    | zero =>
      intro o n V ho hn
      obtain ⟨n, rfl, -⟩ := z_suc hn
      refine ⟨V, fun d pl pw c st => ⟨nI o, ?_⟩, fun j => Or.inl rfl, fun o' h1 h2 => absurd h1 (by omega)⟩
      rw [fl_X5_forbidPlacesOf_2]
      exact if_pos ((z_lo hB hw hK hk (by omega)).mpr (by omega))
    | succ e ih =>
      intro o n V ho hn
      obtain ⟨n, rfl, hn2⟩ := z_suc hn
      obtain ⟨V1, a1, a2, a3⟩ := z_forbid V s g (f_X1_placed K (nI k) (nI o))
      obtain ⟨V2, b1, b2, b3⟩ := ih (o + 1) n V1 (by omega) (by omega)
      refine ⟨V2, fun d pl pw c st => ?_, fun j => ?_, fun o' h1 h2 dn h3 => ?_⟩
      · obtain ⟨x, hx⟩ := b1 d pl pw c st
        refine ⟨x, ?_⟩
        rw [fl_X5_forbidPlacesOf_2]
        refine (if_neg (mt (z_lo hB hw hK hk (by omega)).mp (by omega))).trans ?_
        rw [a1, nI_1]
        exact hx
      · rcases b2 j with h | h
        · rw [h]
          exact a2 j
        · exact Or.inr h
      · by_cases q : o' = o
        · subst q
          have h4 := a3 dn h3
          rcases b2 dn with h | h
          · rw [h]
            exact h4
          · exact h.1
        · exact b3 o' (by omega) h2 dn h3
  obtain ⟨V', h1, h2, h3⟩ := L (w + 1 - ln k) 0 1000 V (by omega) (by omega)
  refine ⟨V', fun d pl pw c st => ?_, h2, fun o ho => h3 o (Nat.zero_le _) ho⟩
  obtain ⟨x, hx⟩ := h1 d pl pw c st
  unfold f_X5_forbidPlacesOf
  exact Option.bind_eq_some_iff.mpr ⟨_, hx, rfl⟩
/-- the places of all wrong lines are forbidden -/
theorem z_forbidAll {B : q_Bd} {K : q_Bk} {w m : Nat} {ln : Nat → Nat} (hB : B.2.2.1 = nI w) (hw : w ≤ 8) (hK : zK m ln K) {l : Nat} (hl : l < m) (V : q_IA) (s g : Int64) : ∃ V' : q_IA, (∀ (d pl : q_IA) (pw c st : Int32), ∃ x, fl_X5_makePlan_45 (nI l) B K 1000 0 (V, d, pl, s, g, pw, c, st) = some (x, (V', d, pl, s, g, pw, c, st))) ∧ (∀ j, V' j = V j ∨ (V' j = -1 ∧ j < 256)) ∧ ∀ k, k < m → k ≠ l → ¬ zsay w ln K B.2.2.2.1 k → ∀ o, ln k + o ≤ w → ∀ dn, zmix s g dn (f_X1_placed K (nI k) (nI o)) → V' dn = -1 := by
  have hm := hK.2.1
  have hK1 := hK.1
  have L : ∀ e i n (V : q_IA), i + e = m → e < n → ∃ V' : q_IA, (∀ (d pl : q_IA) (pw c st : Int32), ∃ x, fl_X5_makePlan_45 (nI l) B K n (nI i) (V, d, pl, s, g, pw, c, st) = some (x, (V', d, pl, s, g, pw, c, st))) ∧ (∀ j, V' j = V j ∨ (V' j = -1 ∧ j < 256)) ∧ ∀ k, i ≤ k → k < m → k ≠ l → ¬ zsay w ln K B.2.2.2.1 k → ∀ o, ln k + o ≤ w → ∀ dn, zmix s g dn (f_X1_placed K (nI k) (nI o)) → V' dn = -1 := by
    intro e
    induction e with
    | zero =>
      intro i n V hi hn
      obtain ⟨n, rfl, -⟩ := z_suc hn
      refine ⟨V, fun d pl pw c st => ⟨nI i, ?_⟩, fun j => Or.inl rfl, fun k h1 h2 => absurd h1 (by omega)⟩
      rw [fl_X5_makePlan_45, hK1]
      exact if_pos (nI_le (by omega) (by omega))
    | succ e ih =>
      intro i n V hi hn
      obtain ⟨n, rfl, hn2⟩ := z_suc hn
      have E : ∀ (d pl : q_IA) (pw c st : Int32), fl_X5_makePlan_45 (nI l) B K (n + 1) (nI i) (V, d, pl, s, g, pw, c, st) = (if nI i = nI l then fl_X5_makePlan_45 (nI l) B K n (nI (i + 1)) (V, d, pl, s, g, pw, c, st) else ((f_X5_says B K B.2.2.2.1 (nI i)).bind fun x_6 => (if x_6 = 0 then ((f_X5_forbidPlacesOf B K (V, d, pl, s, g, pw, c, st) (nI i)).bind fun x_8 => fl_X5_makePlan_45 (nI l) B K n (nI (i + 1)) x_8) else fl_X5_makePlan_45 (nI l) B K n (nI (i + 1)) (V, d, pl, s, g, pw, c, st)))) := by
        intro d pl pw c st
        rw [fl_X5_makePlan_45, hK1, if_neg (nI_ge (show i < m by omega) (by omega)), nI_1]
      by_cases q : i = l
      · obtain ⟨V2, b1, b2, b3⟩ := ih (i + 1) n V (by omega) (by omega)
        refine ⟨V2, fun d pl pw c st => ?_, b2, fun k h1 h2 h3 => b3 k (by omega) h2 h3⟩
        rw [E, if_pos (by rw [q])]
        exact b1 d pl pw c st
      · have hne : ¬ nI i = nI l := by rw [nI_eq (by omega) (by omega)]; exact q
        rcases z_says hB hw hK (show i < m by omega) B.2.2.2.1 with ⟨hs, es⟩ | ⟨hs, es⟩
        · obtain ⟨V2, b1, b2, b3⟩ := ih (i + 1) n V (by omega) (by omega)
          refine ⟨V2, fun d pl pw c st => ?_, b2, fun k h1 h2 h3 h4 => ?_⟩
          · rw [E, if_neg hne, es]
            exact b1 d pl pw c st
          · by_cases q2 : k = i
            · subst q2
              exact absurd hs h4
            · exact b3 k (by omega) h2 h3 h4
        · obtain ⟨V1, a1, a2, a3⟩ := z_forbidPlaces hB hw hK (show i < m by omega) V s g
          obtain ⟨V2, b1, b2, b3⟩ := ih (i + 1) n V1 (by omega) (by omega)
          refine ⟨V2, fun d pl pw c st => ?_, fun j => ?_, fun k h1 h2 h3 h4 o ho dn h5 => ?_⟩
          · rw [E, if_neg hne, es]
            show ∃ x, ((f_X5_forbidPlacesOf B K (V, d, pl, s, g, pw, c, st) (nI i)).bind fun x_8 => fl_X5_makePlan_45 (nI l) B K n (nI (i + 1)) x_8) = _
            rw [a1]
            exact b1 d pl pw c st
          · rcases b2 j with h | h
            · rw [h]
              exact a2 j
            · exact Or.inr h
          · by_cases q2 : k = i
            · subst q2
              have h6 := a3 o ho dn h5
              rcases b2 dn with h | h
              · rw [h]
                exact h6
              · exact h.1
            · exact b3 k (by omega) h2 h3 h4 o ho dn h5
  obtain ⟨V', h1, h2, h3⟩ := L m 0 1000 V (by omega) (by omega)
  exact ⟨V', h1, h2, fun k => h3 k (Nat.zero_le _)⟩
