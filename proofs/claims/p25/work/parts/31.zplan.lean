/-! sets of columns as numbers -/
def zmk (p : Nat → Bool) : Nat → Nat
  | 0 => 0
  | n + 1 => zmk p n ||| (if p n = true then 2 ^ n else 0)
theorem zmk_bit (p : Nat → Bool) : ∀ n i, (zmk p n).testBit i = (decide (i < n) && p i)
  | 0, i => by rw [zmk, Nat.zero_testBit, decide_eq_false (Nat.not_lt_zero i), Bool.false_and]
  | n + 1, i => by
    rw [zmk, Nat.testBit_or, zmk_bit p n i]
    by_cases q : n = i
    · subst q
      rw [decide_eq_false (Nat.lt_irrefl n), decide_eq_true (Nat.lt_succ_self n)]
      by_cases h : p n = true
      · rw [if_pos h, Nat.testBit_two_pow_self, h]
        rfl
      · rw [if_neg h, Nat.zero_testBit]
        simp [h]
    · have e : (if p n = true then 2 ^ n else 0).testBit i = false := by
        by_cases h : p n = true
        · rw [if_pos h, Nat.testBit_two_pow, decide_eq_false q]
        · rw [if_neg h, Nat.zero_testBit]
      rw [e, Bool.or_false]
      congr 1
      apply decide_eq_decide.mpr
      omega
theorem zmk_lt (p : Nat → Bool) (n : Nat) : zmk p n < 2 ^ n := by
  apply Nat.lt_pow_two_of_testBit
  intro i hi
  rw [zmk_bit, decide_eq_false (by omega), Bool.false_and]
theorem z_sh1 : ∀ c, c < 8 → (1 : Int32) <<< (nI c &&& 31) = nI (2 ^ c) := by decide +kernel
def zsub (a b : Nat) : Prop := ∀ i, a.testBit i = true → b.testBit i = true
theorem zsub_le {a b : Nat} (h : zsub a b) : a ≤ b := Nat.le_of_testBit h
def zop (ch dn : Nat) : Nat := ch &&& (255 ^^^ dn)
theorem z255 (i : Nat) : (255 : Nat).testBit i = decide (i < 8) := Nat.testBit_two_pow_sub_one 8 i
theorem zop_bit (ch dn i : Nat) : (zop ch dn).testBit i = (ch.testBit i && (decide (i < 8) ^^ dn.testBit i)) := by
  unfold zop
  rw [Nat.testBit_and, Nat.testBit_xor, z255]
theorem z_hi {a : Nat} (h : a < 256) {i : Nat} (hi : 8 ≤ i) : a.testBit i = false :=
  Nat.testBit_lt_two_pow (Nat.lt_of_lt_of_le (show a < 2 ^ 8 from h) (Nat.pow_le_pow_right (by decide) hi))
theorem z_lo8 {a : Nat} {i : Nat} (h : a < 256) (ha : a.testBit i = true) : i < 8 := by
  rcases Nat.lt_or_ge i 8 with q | q
  · exact q
  · rw [z_hi h q] at ha
    exact absurd ha (by decide)
theorem zop_nI {ch dn : Nat} (h : ch < 256) (hd : dn < 256) : nI ch &&& (nI dn ^^^ (-1)) = nI (zop ch dn) := by
  apply b_ext
  intro i hi
  rw [b_and, b_xor, b_m1 i hi, bt_nI _ hi, bt_nI _ hi, bt_nI _ hi, zop_bit]
  by_cases q : i < 8
  · rw [decide_eq_true q, Bool.xor_true, Bool.true_xor]
  · rw [z_hi h (by omega), Bool.false_and, Bool.false_and]
theorem zop_le (ch dn : Nat) : zop ch dn ≤ ch := Nat.and_le_left
theorem zop_0 {a b : Nat} (ha : a < 256) : zop a b = 0 ↔ zsub a b := by
  constructor
  · intro h i hi
    have h1 := zop_bit a b i
    rw [h, Nat.zero_testBit, hi, Bool.true_and, decide_eq_true (z_lo8 ha hi), Bool.true_xor] at h1
    generalize b.testBit i = x at h1 ⊢
    revert h1
    cases x <;> simp
  · intro h
    apply Nat.eq_of_testBit_eq
    intro i
    rw [zop_bit, Nat.zero_testBit]
    by_cases q : a.testBit i = true
    · rw [q, h i q, decide_eq_true (z_lo8 ha q)]
      rfl
    · simp [q]
theorem zop_sub {set ch dn : Nat} (hch : ch < 256) (h : zsub set (zop ch dn)) : zsub set ch ∧ ∀ i, set.testBit i = true → dn.testBit i = false := by
  have h1 : ∀ i, set.testBit i = true → ch.testBit i = true := by
    intro i hi
    have := h i hi
    rw [zop_bit] at this
    exact (Bool.and_eq_true_iff.mp this).1
  refine ⟨h1, ?_⟩
  intro i hi
  have := h i hi
  rw [zop_bit, h1 i hi, decide_eq_true (z_lo8 hch (h1 i hi)), Bool.true_and, Bool.true_xor] at this
  generalize dn.testBit i = y at this ⊢
  revert this
  cases y <;> simp
def zpcn (a : Nat) : Nat := fb_ct (fun i => a.testBit i) 8
theorem zor_sub {a b c : Nat} (h : zsub a c) (h2 : zsub b c) : zsub (a ||| b) c := by
  intro i hi
  rw [Nat.testBit_or] at hi
  rcases Bool.or_eq_true_iff.mp hi with q | q
  · exact h i q
  · exact h2 i q
theorem z_some_bit {a : Nat} (h : a ≠ 0) : ∃ i, a.testBit i = true := by
  apply Classical.byContradiction
  intro hn
  apply h
  apply Nat.eq_of_testBit_eq
  intro i
  rw [Nat.zero_testBit]
  cases q : a.testBit i
  · rfl
  · exact absurd ⟨i, q⟩ hn
theorem z_or_lt {dn set ch : Nat} (hch : ch < 256) (h0 : set ≠ 0) (h : zsub set (zop ch dn)) : dn < dn ||| set := by
  have h1 : dn ≤ dn ||| set := Nat.left_le_or
  obtain ⟨i, hi⟩ := z_some_bit h0
  have h2 := (zop_sub hch h).2 i hi
  have h3 : (dn ||| set).testBit i = true := by rw [Nat.testBit_or, hi, Bool.or_true]
  have h4 : dn ≠ dn ||| set := by
    intro e
    rw [← e, h2] at h3
    exact absurd h3 (by decide)
  omega
theorem zpcn_or {dn set ch : Nat} (hch : ch < 256) (h0 : set ≠ 0) (h : zsub set (zop ch dn)) : zpcn dn + 1 ≤ zpcn (dn ||| set) := by
  obtain ⟨h1, h2⟩ := zop_sub hch h
  obtain ⟨i, hi⟩ := z_some_bit h0
  have e : zpcn (dn ||| set) = zpcn dn + zpcn set := by
    unfold zpcn
    rw [← fb_ct_or (p := fun i => dn.testBit i) (q := fun i => set.testBit i)]
    · apply fb_ct_cong
      intro k _
      exact Nat.testBit_or _ _ _
    · rintro k - ⟨a, b⟩
      rw [h2 k b] at a
      exact absurd a (by decide)
  have hp : 0 < zpcn set := fb_ct_pos.mpr ⟨i, z_lo8 hch (h1 i hi), hi⟩
  omega
theorem zpcn_le (a : Nat) : zpcn a ≤ 8 := fb_ct_le _ 8
/-! what a change changes -/
def zch (s g : Int64) : Nat := zmk (fun c => !decide (f_X5_setIn (s ^^^ g) (nI c) = 0)) 8
theorem zch_lt (s g : Int64) : zch s g < 256 := zmk_lt _ 8
theorem zch_bit (s g : Int64) {c : Nat} (hc : c < 8) : (zch s g).testBit c = false ↔ ∀ h, h < 5 → zb s (5 * c + h) = zb g (5 * c + h) := by
  unfold zch
  rw [zmk_bit, decide_eq_true hc, Bool.true_and]
  have h0 := zs_0 (s ^^^ g) (show c ≤ 12 by omega)
  constructor
  · intro h i hi
    have h1 : f_X5_setIn (s ^^^ g) (nI c) = 0 := by simpa using h
    have h2 := h0.mp h1 i hi
    rw [zb_xor] at h2
    generalize zb s (5 * c + i) = a at h2 ⊢
    generalize zb g (5 * c + i) = b at h2 ⊢
    revert h2
    cases a <;> cases b <;> simp
  · intro h
    have h1 : f_X5_setIn (s ^^^ g) (nI c) = 0 := h0.mpr (fun i hi => by rw [zb_xor, h i hi, Bool.xor_self])
    rw [decide_eq_true h1]
    rfl
theorem zch_same (s : Int64) : zch s s = 0 := by
  apply Nat.eq_of_testBit_eq
  intro i
  rw [Nat.zero_testBit]
  rcases Nat.lt_or_ge i 8 with q | q
  · exact (zch_bit s s q).mpr (fun _ _ => rfl)
  · exact z_hi (zch_lt s s) q
theorem zch_ct (s g : Int64) : zpcn (zch s g) ≤ fb_ct (zb (s ^^^ g)) 64 := by
  have L : ∀ n, n ≤ 8 → fb_ct (fun i => (zch s g).testBit i) n ≤ fb_ct (zb (s ^^^ g)) (5 * n) := by
    intro n
    induction n with
    | zero => intro _; exact Nat.le_refl _
    | succ n ih =>
      intro hn
      rw [fb_ct_succ, show 5 * (n + 1) = 5 * n + 5 by omega, fb_ct_split]
      have := ih (by omega)
      by_cases q : (zch s g).testBit n = true
      · rw [if_pos q]
        have hp : 0 < fb_ct (fun k => zb (s ^^^ g) (5 * n + k)) 5 := by
          apply Classical.byContradiction
          intro hz
          have hz0 := fb_ct_zero.mp (show fb_ct (fun k => zb (s ^^^ g) (5 * n + k)) 5 = 0 by omega)
          have : (zch s g).testBit n = false := by
            apply (zch_bit s g (by omega)).mpr
            intro h hh
            have h2 := hz0 h hh
            rw [zb_xor] at h2
            generalize zb s (5 * n + h) = a at h2 ⊢
            generalize zb g (5 * n + h) = b at h2 ⊢
            revert h2
            cases a <;> cases b <;> simp
          rw [this] at q
          exact absurd q (by decide)
        omega
      · rw [if_neg q]
        omega
  have h1 : fb_ct (fun i => (zch s g).testBit i) 8 ≤ fb_ct (zb (s ^^^ g)) 40 := L 8 (Nat.le_refl 8)
  have h2 : fb_ct (zb (s ^^^ g)) 40 ≤ fb_ct (zb (s ^^^ g)) 64 := fb_ct_mono _ (by decide)
  unfold zpcn
  omega
/-! a planner begins -/
def zN (N : q_Pl) : Prop := (∀ j, 256 ≤ j → N.1 j = 0) ∧ ∀ j, (j = 0 ∨ 256 ≤ j) → N.2.1 j = 0
theorem z_b24 (s g : Int64) (a b e : q_IA) (u v : Int64) (pw st : Int32) : ∀ d k n, k + d = 8 → d < n → fl_X2_begin_24 s g n (nI k) (a, b, e, u, v, pw, nI (zmk (fun c => !decide (f_X5_setIn (s ^^^ g) (nI c) = 0)) k), st) = some (nI 8, (a, b, e, u, v, pw, nI (zch s g), st)) := by
  intro d
  induction d with
  | zero =>
    intro k n hk hn
    obtain ⟨n, rfl, -⟩ := z_suc hn
    obtain rfl : k = 8 := by omega
    rw [fl_X2_begin_24]
    exact if_pos (show (8 : Int32) ≤ nI 8 from nI_le (a := 8) (Nat.le_refl _) (by omega))
  | succ d ih =>
    intro k n hk hn
    obtain ⟨n, rfl, hn2⟩ := z_suc hn
    rw [fl_X2_begin_24]
    refine (if_neg (show ¬ (8 : Int32) ≤ nI k from nI_ge (b := 8) (by omega) (by decide))).trans ?_
    have ihk := ih (k + 1) n (by omega) (by omega)
    rw [zmk] at ihk
    by_cases q : f_X5_setIn (s ^^^ g) (nI k) = 0
    · refine (if_pos q).trans ?_
      rw [if_neg (by rw [decide_eq_true q]; decide), ← fa_or] at ihk
      rw [nI_1]
      exact ihk
    · refine (if_neg q).trans ?_
      rw [if_pos (by rw [decide_eq_false q]; rfl), ← fa_or, ← z_sh1 k (by omega)] at ihk
      rw [nI_1]
      exact ihk
theorem z_b68 (R : q_IA × q_IA × Int64 × Int64 × Int32 × Int32 × Int32) : ∀ d k n (f : q_IA), k + d = 256 → d < n → (∀ j, (j < k ∨ 256 ≤ j) → f j = 0) → fl_X2_begin_68 n (nI k) (f, R) = some (nI 256, (fun _ => 0, R)) := by
  intro d
  induction d with
  | zero =>
    intro k n f hk hn hf
    obtain ⟨n, rfl, -⟩ := z_suc hn
    obtain rfl : k = 256 := by omega
    obtain rfl : f = fun _ => 0 := funext fun j => hf j (by omega)
    rw [fl_X2_begin_68]
    exact if_pos (nI_le (Nat.le_refl _) (by omega))
  | succ d ih =>
    intro k n f hk hn hf
    obtain ⟨n, rfl, hn2⟩ := z_suc hn
    rw [fl_X2_begin_68]
    refine (if_neg (nI_ge (show k < 256 by omega) (by decide))).trans ?_
    refine (if_pos (zq_ix (show k < 256 by omega) (by decide))).trans ?_
    rw [nI_clamp (by omega), nI_1]
    refine ih (k + 1) n (upd f k 0) (by omega) (by omega) (fun j hj => ?_)
    by_cases q : j = k
    · subst q
      exact pk_us
    · rw [pk_un q]
      exact hf j (by omega)
theorem z_cd (s g : Int64) (a1 pl1 a2 pl2 : q_IA) (pw1 c1 st1 pw2 c2 st2 : Int32) : ∀ d k n (f1 f2 : q_IA), 1 ≤ k → k + d = 256 → d < n → (∀ j, (j < k ∨ 256 ≤ j) → f1 j = f2 j) → ∃ D : q_IA, fl_X2_countDots_2 n (nI k) (a1, f1, pl1, s, g, pw1, c1, st1) = some (nI 256, (a1, D, pl1, s, g, pw1, c1, st1)) ∧ fl_X2_countDots_2 n (nI k) (a2, f2, pl2, s, g, pw2, c2, st2) = some (nI 256, (a2, D, pl2, s, g, pw2, c2, st2)) ∧ ∀ j, (j = 0 ∨ 256 ≤ j) → D j = f1 j := by
  intro d
  induction d with
  | zero =>
    intro k n f1 f2 h1 hk hn hf
    obtain ⟨n, rfl, -⟩ := z_suc hn
    obtain rfl : k = 256 := by omega
    obtain rfl : f1 = f2 := funext fun j => hf j (by omega)
    refine ⟨f1, ?_, ?_, fun _ _ => rfl⟩
    · rw [fl_X2_countDots_2]
      exact if_pos (nI_le (Nat.le_refl _) (by omega))
    · rw [fl_X2_countDots_2]
      exact if_pos (nI_le (Nat.le_refl _) (by omega))
  | succ d ih =>
    intro k n f1 f2 h1 hk hn hf
    obtain ⟨n, rfl, hn2⟩ := z_suc hn
    have e1 : nI k &&& (nI k - 1) = nI (k &&& (k - 1)) := by
      rw [show nI k - 1 = nI (k - 1) from pk_sub (b := 1) h1, fa_and]
    have h2 : k &&& (k - 1) ≤ k - 1 := Nat.and_le_right
    have step : ∀ (a f pl : q_IA) (pw c st : Int32), fl_X2_countDots_2 (n + 1) (nI k) (a, f, pl, s, g, pw, c, st) = fl_X2_countDots_2 n (nI (k + 1)) (a, upd f k (f (k &&& (k - 1)) + f_J6_bitCount_0f7a4 (f_X5_setIn (s ^^^ g) (f_J6_bitCount_0f7a4 ((nI k &&& (-nI k)) - 1)))), pl, s, g, pw, c, st) := by
      intro a f pl pw c st
      rw [fl_X2_countDots_2]
      refine (if_neg (nI_ge (show k < 256 by omega) (by decide))).trans ?_
      refine (if_pos (zq_ix (show k < 256 by omega) (by decide))).trans ?_
      rw [nI_clamp (by omega), nI_1, e1, z_at (by omega) (by decide)]
    rw [step, step]
    have ihk := ih (k + 1) n (upd f1 k (f1 (k &&& (k - 1)) + f_J6_bitCount_0f7a4 (f_X5_setIn (s ^^^ g) (f_J6_bitCount_0f7a4 ((nI k &&& (-nI k)) - 1))))) (upd f2 k (f2 (k &&& (k - 1)) + f_J6_bitCount_0f7a4 (f_X5_setIn (s ^^^ g) (f_J6_bitCount_0f7a4 ((nI k &&& (-nI k)) - 1))))) (by omega) (by omega) (by omega) (by
      intro j hj
      by_cases q : j = k
      · subst q
        rw [pk_us, pk_us, hf (j &&& (j - 1)) (by omega)]
      · rw [pk_un q, pk_un q]
        exact hf j (by omega))
    obtain ⟨D, i1, i2, i3⟩ := ihk
    refine ⟨D, i1, i2, fun j hj => ?_⟩
    rw [i3 j hj, pk_un (by omega)]
theorem z_countDots (s g : Int64) : ∃ D : q_IA, (∀ j, (j = 0 ∨ 256 ≤ j) → D j = 0) ∧ ∀ (a f pl : q_IA) (pw c st : Int32), (∀ j, (j = 0 ∨ 256 ≤ j) → f j = 0) → f_X2_countDots (a, f, pl, s, g, pw, c, st) = some (a, D, pl, s, g, pw, c, st) := by
  obtain ⟨D, h1, -, h3⟩ := z_cd s g (fun _ => 0) (fun _ => 0) (fun _ => 0) (fun _ => 0) 0 0 0 0 0 0 255 1 1000 (fun _ => 0) (fun _ => 0) (by omega) (by omega) (by omega) (fun _ _ => rfl)
  refine ⟨D, h3, fun a f pl pw c st hf => ?_⟩
  obtain ⟨D', i1, i2, -⟩ := z_cd s g a pl (fun _ => 0) (fun _ => 0) pw c st 0 0 0 255 1 1000 f (fun _ => 0) (by omega) (by omega) (by omega) (fun j hj => hf j (by omega))
  have e : D' = D := by
    rw [h1] at i2
    exact (congrArg (fun z => z.2.2.1) (Option.some.inj i2)).symm
  subst e
  unfold f_X2_countDots
  exact Option.bind_eq_some_iff.mpr ⟨_, i1, rfl⟩
theorem z_plBegin (s g : Int64) (pw : Int32) : ∃ D : q_IA, (∀ j, (j = 0 ∨ 256 ≤ j) → D j = 0) ∧ ∀ N, zN N → f_X2_begin N s g pw = some (fun _ => 0, D, N.2.2.1, s, g, pw, nI (zch s g), N.2.2.2.2.2.2.2) := by
  obtain ⟨D, h1, h2⟩ := z_countDots s g
  refine ⟨D, h1, fun N hN => ?_⟩
  obtain ⟨hN1, hN2⟩ := hN
  unfold f_X2_begin
  refine Option.bind_eq_some_iff.mpr ⟨_, z_b24 s g N.1 N.2.1 N.2.2.1 s g pw N.2.2.2.2.2.2.2 8 0 1000 (by omega) (by omega), ?_⟩
  refine Option.bind_eq_some_iff.mpr ⟨_, z_b68 (N.2.1, N.2.2.1, s, g, pw, nI (zch s g), N.2.2.2.2.2.2.2) 256 0 1000 N.1 (by omega) (by omega) (fun j hj => hN1 j (by omega)), ?_⟩
  exact Option.bind_eq_some_iff.mpr ⟨_, h2 (fun _ => 0) N.2.1 N.2.2.1 pw (nI (zch s g)) N.2.2.2.2.2.2.2 hN2, rfl⟩
