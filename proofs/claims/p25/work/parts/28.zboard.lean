/-! the board by numbers -/
theorem zq_ix {k n : Nat} (h : k < n) (hn : n < 2 ^ 31) : q_ix (nI k) n = true := decide_eq_true (by rw [nI_toInt (by omega)]; omega)
theorem z_at {n : Nat} {f : q_IA} {k : Nat} (h : k < n) (hn : n < 2 ^ 31) : f_X5_at n f (nI k) = f k := by
  unfold f_X5_at
  rw [if_neg (nI_pos (by omega)), if_neg (nI_ge h hn), nI_clamp (by omega)]
theorem z_at_out {n : Nat} {f : q_IA} {k : Nat} (h : n ≤ k) (hk : k < 2 ^ 31) : f_X5_at n f (nI k) = 0 := by
  unfold f_X5_at
  rw [if_neg (nI_pos hk), if_pos (nI_le h hk)]
theorem z_put {n : Nat} {f : q_IA} {k : Nat} {v : Int32} (h : k < n) (hn : n < 2 ^ 31) : f_X5_put n f (nI k) v = upd f k v := by
  unfold f_X5_put
  rw [if_neg (nI_pos (by omega)), if_neg (nI_ge h hn), nI_clamp (by omega)]
theorem z_putL {n : Nat} {f : q_LA} {k : Nat} {v : Int64} (h : k < n) (hn : n < 2 ^ 31) : f_X5_put_ n f (nI k) v = vp_updL f k v := by
  unfold f_X5_put_
  rw [if_neg (nI_pos (by omega)), if_neg (nI_ge h hn), nI_clamp (by omega)]
theorem z_bitOf (c h : Nat) : f_X5_bitOf (nI c) (nI h) = nI (5 * c + h) := by
  unfold f_X5_bitOf
  rw [z5, nI_add]
theorem z_bitOf0 (c : Nat) : f_X5_bitOf (nI c) 0 = nI (5 * c) := z_bitOf c 0
theorem z_suc {n d : Nat} (h : d < n) : ∃ m, n = m + 1 ∧ d ≤ m := ⟨n - 1, by omega, by omega⟩
/-! a board made new -/
theorem z_begin22 (R : q_IA × Int32 × Int64 × Int64 × Int64) : ∀ d k n, k + d = 40 → d < n → fl_X0_begin_22 n (nI k) (fun _ => 0, R) = some (nI 40, (fun _ => 0, R)) := by
  intro d
  induction d with
  | zero =>
    intro k n hk hn
    obtain ⟨n, rfl, -⟩ := z_suc hn
    obtain rfl : k = 40 := by omega
    rw [fl_X0_begin_22]
    exact if_pos (nI_le (Nat.le_refl _) (by decide))
  | succ d ih =>
    intro k n hk hn
    obtain ⟨n, rfl, hn2⟩ := z_suc hn
    rw [fl_X0_begin_22]
    refine (if_neg (nI_ge (show k < 40 by omega) (by decide))).trans ?_
    refine (if_pos (zq_ix (show k < 40 by omega) (by decide))).trans ?_
    have e : upd (fun _ => (0 : Int32)) k 0 = fun _ => 0 := fa_upd_same rfl
    rw [nI_clamp (by omega), nI_1]
    show fl_X0_begin_22 n (nI (k + 1)) (upd (fun _ => (0 : Int32)) k 0, R) = _
    rw [e]
    exact ih (k + 1) n (by omega) (by omega)
theorem z_begin46 (f : q_IA) (R : Int32 × Int64 × Int64 × Int64) : ∀ d k n, k + d = 8 → d < n → fl_X0_begin_46 n (nI k) (f, fun _ => 0, R) = some (nI 8, (f, fun _ => 0, R)) := by
  intro d
  induction d with
  | zero =>
    intro k n hk hn
    obtain ⟨n, rfl, -⟩ := z_suc hn
    obtain rfl : k = 8 := by omega
    rw [fl_X0_begin_46]
    exact if_pos (nI_le (Nat.le_refl _) (by decide))
  | succ d ih =>
    intro k n hk hn
    obtain ⟨n, rfl, hn2⟩ := z_suc hn
    rw [fl_X0_begin_46]
    refine (if_neg (nI_ge (show k < 8 by omega) (by decide))).trans ?_
    refine (if_pos (zq_ix (show k < 8 by omega) (by decide))).trans ?_
    have e : upd (fun _ => (0 : Int32)) k 0 = fun _ => 0 := fa_upd_same rfl
    rw [nI_clamp (by omega), nI_1]
    show fl_X0_begin_46 n (nI (k + 1)) (f, upd (fun _ => (0 : Int32)) k 0, R) = _
    rw [e]
    exact ih (k + 1) n (by omega) (by omega)
abbrev zB0 (w : Nat) : q_Bd := (fun _ => 0, fun _ => 0, nI w, 0, 0, 0)
theorem z_begin (w : Nat) : f_X0_begin q_B0 (nI w) = some (zB0 w) := by
  unfold f_X0_begin
  refine Option.bind_eq_some_iff.mpr ⟨_, z_begin22 (fun _ => 0, nI w, 0, 0, 0) 40 0 1000 rfl (by decide), ?_⟩
  refine Option.bind_eq_some_iff.mpr ⟨_, z_begin46 (fun _ => 0) (nI w, 0, 0, 0) 8 0 1000 rfl (by decide), rfl⟩
theorem z_width {w : Nat} (h4 : 4 ≤ w) (h8 : w ≤ 8) : f_X5_width q_F0 q_B0 (nI w) = some (8, q_F0, zB0 w) := by
  unfold f_X5_width
  rw [if_neg (show ¬ nI w < 4 from nI_nlt (a := w) (b := 4) h4 (by omega)), if_pos (show nI w ≤ 8 from nI_le (a := w) (b := 8) h8 (by decide)), z_begin]
  rfl
/-! a board turned to a picture -/
def zwf (x y : Int64) (g : q_IA) : q_IA := fun c => g c + f_J6_bitCount_0f7a4 (f_X5_setIn (x ^^^ y) (nI c))
def zff (x y : Int64) (g : q_IA) : q_IA := fun b => g b + ((((x ^^^ y).toUInt64 >>> ((nI b).toInt64.toUInt64 &&& Int64.toUInt64 63)).toInt64) &&& 1).toInt32
theorem z_turn10 (x : Int64) (B : q_Bd) {w : Nat} (hw : w ≤ 8) (b1 g : q_IA) (R : Int64 × Int64 × Int64) : ∀ d k n, k + d = w → d < n → fl_X0_turnTo_10 x B n (nI k) (b1, fa_fill (zwf B.2.2.2.1 x g) g k, nI w, R) = some (nI w, (b1, fa_fill (zwf B.2.2.2.1 x g) g w, nI w, R)) := by
  intro d
  induction d with
  | zero =>
    intro k n hk hn
    obtain ⟨n, rfl, -⟩ := z_suc hn
    obtain rfl : k = w := by omega
    rw [fl_X0_turnTo_10]
    exact if_pos (nI_le (Nat.le_refl _) (by omega))
  | succ d ih =>
    intro k n hk hn
    obtain ⟨n, rfl, hn2⟩ := z_suc hn
    rw [fl_X0_turnTo_10]
    refine (if_neg (nI_ge (show k < w by omega) (by omega))).trans ?_
    show fl_X0_turnTo_10 x B n (nI k + 1) (b1, f_X5_put 8 (fa_fill (zwf B.2.2.2.1 x g) g k) (nI k) (f_X5_at 8 (fa_fill (zwf B.2.2.2.1 x g) g k) (nI k) + f_J6_bitCount_0f7a4 (f_X5_setIn (B.2.2.2.1 ^^^ x) (nI k))), nI w, R) = _
    have e : upd (fa_fill (zwf B.2.2.2.1 x g) g k) k (g k + f_J6_bitCount_0f7a4 (f_X5_setIn (B.2.2.2.1 ^^^ x) (nI k))) = fa_fill (zwf B.2.2.2.1 x g) g (k + 1) := fa_fill_succ (zwf B.2.2.2.1 x g) g k
    rw [z_put (by omega) (by decide), z_at (by omega) (by decide), fa_fill_out (Nat.le_refl k), e, nI_1]
    exact ih (k + 1) n (by omega) (by omega)
theorem z_turn56 (x : Int64) (B : q_Bd) (g : q_IA) (R : q_IA × Int32 × Int64 × Int64 × Int64) : ∀ d k n, k + d = 40 → d < n → fl_X0_turnTo_56 x B n (nI k) (fa_fill (zff B.2.2.2.1 x g) g k, R) = some (nI 40, (fa_fill (zff B.2.2.2.1 x g) g 40, R)) := by
  intro d
  induction d with
  | zero =>
    intro k n hk hn
    obtain ⟨n, rfl, -⟩ := z_suc hn
    obtain rfl : k = 40 := by omega
    rw [fl_X0_turnTo_56]
    exact if_pos (nI_le (Nat.le_refl _) (by omega))
  | succ d ih =>
    intro k n hk hn
    obtain ⟨n, rfl, hn2⟩ := z_suc hn
    rw [fl_X0_turnTo_56]
    refine (if_neg (nI_ge (show k < 40 by omega) (by decide))).trans ?_
    refine (if_pos (zq_ix (show k < 40 by omega) (by decide))).trans ?_
    rw [nI_clamp (by omega), nI_1]
    have e : upd (fa_fill (zff B.2.2.2.1 x g) g k) k (g k + ((((B.2.2.2.1 ^^^ x).toUInt64 >>> ((nI k).toInt64.toUInt64 &&& Int64.toUInt64 63)).toInt64) &&& 1).toInt32) = fa_fill (zff B.2.2.2.1 x g) g (k + 1) := fa_fill_succ (zff B.2.2.2.1 x g) g k
    show fl_X0_turnTo_56 x B n (nI (k + 1)) (upd (fa_fill (zff B.2.2.2.1 x g) g k) k (fa_fill (zff B.2.2.2.1 x g) g k k + ((((B.2.2.2.1 ^^^ x).toUInt64 >>> ((nI k).toInt64.toUInt64 &&& Int64.toUInt64 63)).toInt64) &&& 1).toInt32), R) = _
    rw [fa_fill_out (Nat.le_refl k), e]
    exact ih (k + 1) n (by omega) (by omega)
theorem z_turnTo (B : q_Bd) (x : Int64) {w : Nat} (hw : w ≤ 8) (hB : B.2.2.1 = nI w) : f_X0_turnTo B x = some (fa_fill (zff B.2.2.2.1 x B.1) B.1 40, fa_fill (zwf B.2.2.2.1 x B.2.1) B.2.1 w, nI w, x, B.2.2.2.2.1, B.2.2.2.2.2) := by
  obtain ⟨b1, b2, b3, b4, b5, b6⟩ := B
  replace hB : b3 = nI w := hB
  subst hB
  unfold f_X0_turnTo
  have h1 := z_turn10 x (b1, b2, nI w, b4, b5, b6) hw b1 b2 (b4, b5, b6) w 0 1000 (by omega) (by omega)
  rw [fa_fill_0] at h1
  refine Option.bind_eq_some_iff.mpr ⟨_, h1, ?_⟩
  have h2 := z_turn56 x (b1, b2, nI w, b4, b5, b6) b1 (fa_fill (zwf b4 x b2) b2 w, nI w, b4, b5, b6) 40 0 1000 (by omega) (by omega)
  rw [fa_fill_0] at h2
  exact Option.bind_eq_some_iff.mpr ⟨_, h2, rfl⟩
theorem z_bit1 (x : Int64) {b : Nat} (hb : b < 64) : ((((x).toUInt64 >>> ((nI b).toInt64.toUInt64 &&& Int64.toUInt64 63)).toInt64) &&& 1).toInt32 = nI (if zb x b = true then 1 else 0) := by
  by_cases h : zb x b = true
  · rw [if_pos h]
    have e : (((x).toUInt64 >>> ((nI b).toInt64.toUInt64 &&& Int64.toUInt64 63)).toInt64) &&& 1 = 1 := by
      apply zb_ext
      intro i hi
      rw [zb_and, zb_shr x b hb, zb_1 i hi]
      by_cases q : i = 0
      · subst q
        rw [Nat.add_zero, h]
        rfl
      · simp [q]
    rw [e]
    rfl
  · rw [if_neg h]
    have e : (((x).toUInt64 >>> ((nI b).toInt64.toUInt64 &&& Int64.toUInt64 63)).toInt64) &&& 1 = 0 := by
      apply zb_ext
      intro i hi
      rw [zb_and, zb_shr x b hb, zb_1 i hi, zb_0]
      by_cases q : i = 0
      · subst q
        rw [Nat.add_zero]
        simp [h]
      · simp [q]
    rw [e]
    rfl
/-! sums of flips -/
def zF (fl : Nat → Nat) (c : Nat) : Nat := fb_sm (fun h => fl (5 * c + h)) 5
theorem z_flipsIn {B : q_Bd} {fl : Nat → Nat} (h : ∀ j, j < 40 → B.1 j = nI (fl j)) {c : Nat} (hc : c < 8) : f_X0_flipsIn B (nI c) = some (nI (zF fl c)) := by
  have L : ∀ d k n, k + d = 5 → d < n → fl_X0_flipsIn_4 (nI c) B n (nI (fb_sm (fun h => fl (5 * c + h)) k)) (nI k) = some (nI (zF fl c), nI 5) := by
    intro d
    induction d with
    | zero =>
      intro k n hk hn
      obtain ⟨n, rfl, -⟩ := z_suc hn
      obtain rfl : k = 5 := by omega
      rw [fl_X0_flipsIn_4]
      exact if_pos (show (5 : Int32) ≤ nI 5 from nI_le (a := 5) (Nat.le_refl _) (by omega))
    | succ d ih =>
      intro k n hk hn
      obtain ⟨n, rfl, hn2⟩ := z_suc hn
      rw [fl_X0_flipsIn_4]
      refine (if_neg (show ¬ (5 : Int32) ≤ nI k from nI_ge (b := 5) (by omega) (by decide))).trans ?_
      rw [z_bitOf, z_at (by omega) (by decide), h _ (by omega), nI_add, nI_1]
      exact ih (k + 1) n (by omega) (by omega)
  unfold f_X0_flipsIn
  exact Option.bind_eq_some_iff.mpr ⟨_, L 5 0 1000 (by omega) (by omega), rfl⟩
theorem z_allFlips {B : q_Bd} {fl : Nat → Nat} {w : Nat} (hw : w ≤ 8) (hB : B.2.2.1 = nI w) (h : ∀ j, j < 40 → B.1 j = nI (fl j)) : f_X0_allFlips B = some (nI (fb_sm (zF fl) w)) := by
  have L : ∀ d k n, k + d = w → d < n → fl_X0_allFlips_4 B n (nI (fb_sm (zF fl) k)) (nI k) = some (nI (fb_sm (zF fl) w), nI w) := by
    intro d
    induction d with
    | zero =>
      intro k n hk hn
      obtain ⟨n, rfl, -⟩ := z_suc hn
      obtain rfl : k = w := by omega
      rw [fl_X0_allFlips_4, hB]
      exact if_pos (nI_le (Nat.le_refl _) (by omega))
    | succ d ih =>
      intro k n hk hn
      obtain ⟨n, rfl, hn2⟩ := z_suc hn
      rw [fl_X0_allFlips_4, hB]
      refine (if_neg (nI_ge (show k < w by omega) (by omega))).trans ?_
      refine Option.bind_eq_some_iff.mpr ⟨_, z_flipsIn h (by omega), ?_⟩
      rw [nI_add, nI_1]
      exact ih (k + 1) n (by omega) (by omega)
  unfold f_X0_allFlips
  exact Option.bind_eq_some_iff.mpr ⟨_, L w 0 1000 (by omega) (by omega), rfl⟩
def zB (w t : Nat) (fl wr : Nat → Nat) (B : q_Bd) : Prop :=
  4 ≤ w ∧ w ≤ 8 ∧ t ≤ 1000 ∧ B.2.2.1 = nI w ∧ (∀ j, j < 40 → B.1 j = nI (fl j) ∧ fl j ≤ t) ∧ (∀ c, c < 8 → B.2.1 c = nI (wr c) ∧ wr c ≤ zF fl c) ∧ f_X0_withStuck B B.2.2.2.1 = B.2.2.2.1 ∧ (∀ i, 5 * w ≤ i → zb B.2.2.2.1 i = false ∧ zb B.2.2.2.2.2 i = false) ∧ (∀ i, i < 64 → zb B.2.2.2.2.2 i = true → zb B.2.2.2.2.1 i = true)
theorem zF_le {w t : Nat} {fl wr : Nat → Nat} {B : q_Bd} (h : zB w t fl wr B) {c : Nat} (hc : c < 8) : zF fl c ≤ 5000 := by
  obtain ⟨-, -, ht, -, h1, -⟩ := h
  have := fb_sm_bound (f := fun h => fl (5 * c + h)) (c := t) (n := 5) (fun k hk => (h1 _ (by omega)).2)
  unfold zF
  omega
theorem zSF_le {w t : Nat} {fl wr : Nat → Nat} {B : q_Bd} (h : zB w t fl wr B) : fb_sm (zF fl) w ≤ 40000 := by
  have h2 := h.2.1
  have := fb_sm_bound (f := zF fl) (c := 5000) (n := w) (fun k hk => zF_le h (by omega))
  omega
theorem z_isTrue {w t : Nat} {fl wr : Nat → Nat} {B : q_Bd} (hB : zB w t fl wr B) : f_X0_isTrue B = some 1 := by
  have hF : ∀ c, c < 8 → zF fl c ≤ 5000 := fun c hc => zF_le hB hc
  obtain ⟨h4, h8, ht, hw, h1, h2, h3, h5, h6⟩ := hB
  have L : ∀ d k n, k + d = w → d < n → fl_X0_isTrue_2 B n (nI k) = some (.inr (nI w)) := by
    intro d
    induction d with
    | zero =>
      intro k n hk hn
      obtain ⟨n, rfl, -⟩ := z_suc hn
      obtain rfl : k = w := by omega
      rw [fl_X0_isTrue_2, hw]
      exact if_pos (nI_le (Nat.le_refl _) (by omega))
    | succ d ih =>
      intro k n hk hn
      obtain ⟨n, rfl, hn2⟩ := z_suc hn
      rw [fl_X0_isTrue_2, hw]
      refine (if_neg (nI_ge (show k < w by omega) (by omega))).trans ?_
      refine Option.bind_eq_some_iff.mpr ⟨_, z_flipsIn (fun j hj => (h1 j hj).1) (show k < 8 by omega), ?_⟩
      have hFk := hF k (by omega)
      rw [z_at (by omega) (by decide), (h2 k (by omega)).1, if_pos (nI_le (h2 k (by omega)).2 (by omega)), nI_1]
      exact ih (k + 1) n (by omega) (by omega)
  unfold f_X0_isTrue
  refine Option.bind_eq_some_iff.mpr ⟨_, L w 0 1000 (by omega) (by omega), ?_⟩
  show (if (lg_cmp (f_X0_withStuck B B.2.2.2.1) B.2.2.2.1) = 0 then some (1 : Int32) else some 0) = some 1
  exact if_pos ((lg_cmp_eq _ _).mpr h3)
/-! the picture that the stuck dots leave -/
theorem z_ws_bit (B : q_Bd) (x : Int64) {i : Nat} (hi : i < 64) : zb (f_X0_withStuck B x) i = ((zb x i && !zb B.2.2.2.2.1 i) || zb B.2.2.2.2.2 i) := by
  unfold f_X0_withStuck
  rw [zb_or, zb_and, zb_not _ hi]
theorem z_ws_idem (B : q_Bd) (x : Int64) : f_X0_withStuck B (f_X0_withStuck B x) = f_X0_withStuck B x := by
  apply zb_ext
  intro i hi
  rw [z_ws_bit B _ hi, z_ws_bit B x hi]
  cases zb x i <;> cases zb B.2.2.2.2.1 i <;> cases zb B.2.2.2.2.2 i <;> rfl
theorem z_ws_cong {B B' : q_Bd} (h1 : B'.2.2.2.2.1 = B.2.2.2.2.1) (h2 : B'.2.2.2.2.2 = B.2.2.2.2.2) (x : Int64) : f_X0_withStuck B' x = f_X0_withStuck B x := by
  unfold f_X0_withStuck
  rw [h1, h2]
theorem z_dotIn {c h : Nat} (hc : c < 8) (hh : h < 5) {i : Nat} (hi : i < 64) : zb (f_X5_dotIn (nI c) (nI h)) i = decide (i = 5 * c + h) := by
  unfold f_X5_dotIn
  rw [z_bitOf, zb_shl _ _ (by omega) hi]
  by_cases q : 5 * c + h ≤ i
  · rw [zb_1 _ (by omega), decide_eq_true q, Bool.true_and]
    congr 1
    apply propext
    omega
  · rw [decide_eq_false q, Bool.false_and, decide_eq_false (by omega)]
theorem zB_fix {w t : Nat} {fl wr : Nat → Nat} {B : q_Bd} (hB : zB w t fl wr B) {c h : Nat} (hc : c < w) (hh : h < 5) (x : Int32) : zB w t fl wr (f_X0_fix B (nI c) (nI h) x) := by
  obtain ⟨h4, h8, ht, hw, h1, h2, h3, h5, h6⟩ := hB
  have key : ∀ s b : Int64, (∀ i, 5 * w ≤ i → zb b i = false) → (∀ i, i < 64 → zb b i = true → zb s i = true) → zB w t fl wr (B.1, B.2.1, B.2.2.1, f_X0_withStuck (B.1, B.2.1, B.2.2.1, B.2.2.2.1, s, b) B.2.2.2.1, s, b) := by
    intro s b hb hsb
    refine ⟨h4, h8, ht, hw, h1, h2, ?_, ?_, hsb⟩
    · exact z_ws_idem (B.1, B.2.1, B.2.2.1, B.2.2.2.1, s, b) B.2.2.2.1
    · intro i hi
      refine ⟨?_, hb i hi⟩
      by_cases q : i < 64
      · show zb (f_X0_withStuck (B.1, B.2.1, B.2.2.1, B.2.2.2.1, s, b) B.2.2.2.1) i = false
        rw [z_ws_bit _ _ q, (h5 i hi).1]
        show ((false && _) || zb b i) = false
        rw [hb i hi]
        rfl
      · exact zb_big (by omega)
  have d1 : ∀ i, 5 * w ≤ i → zb (B.2.2.2.2.2 ||| f_X5_dotIn (nI c) (nI h)) i = false := by
    intro i hi
    by_cases q : i < 64
    · rw [zb_or, (h5 i hi).2, z_dotIn (by omega) hh q, decide_eq_false (by omega)]
      rfl
    · exact zb_big (by omega)
  have d2 : ∀ i, 5 * w ≤ i → zb (B.2.2.2.2.2 &&& (f_X5_dotIn (nI c) (nI h) ^^^ (-1))) i = false := by
    intro i hi
    rw [zb_and, (h5 i hi).2]
    rfl
  have e1 : ∀ i, i < 64 → zb (B.2.2.2.2.2 ||| f_X5_dotIn (nI c) (nI h)) i = true → zb (B.2.2.2.2.1 ||| f_X5_dotIn (nI c) (nI h)) i = true := by
    intro i hi
    have := h6 i hi
    rw [zb_or, zb_or]
    generalize zb B.2.2.2.2.2 i = a at this ⊢
    generalize zb B.2.2.2.2.1 i = b at this ⊢
    generalize zb (f_X5_dotIn (nI c) (nI h)) i = d
    revert this
    cases a <;> cases b <;> cases d <;> simp
  have e2 : ∀ i, i < 64 → zb (B.2.2.2.2.2 &&& (f_X5_dotIn (nI c) (nI h) ^^^ (-1))) i = true → zb (B.2.2.2.2.1 ||| f_X5_dotIn (nI c) (nI h)) i = true := by
    intro i hi
    have := h6 i hi
    rw [zb_and, zb_or]
    generalize zb B.2.2.2.2.2 i = a at this ⊢
    generalize zb B.2.2.2.2.1 i = b at this ⊢
    generalize zb (f_X5_dotIn (nI c) (nI h)) i = d
    generalize zb (f_X5_dotIn (nI c) (nI h) ^^^ (-1)) i = d'
    revert this
    cases a <;> cases b <;> cases d <;> cases d' <;> simp
  have e3 : ∀ i, i < 64 → zb (B.2.2.2.2.2 &&& (f_X5_dotIn (nI c) (nI h) ^^^ (-1))) i = true → zb (B.2.2.2.2.1 &&& (f_X5_dotIn (nI c) (nI h) ^^^ (-1))) i = true := by
    intro i hi
    have := h6 i hi
    rw [zb_and, zb_and]
    generalize zb B.2.2.2.2.2 i = a at this ⊢
    generalize zb B.2.2.2.2.1 i = b at this ⊢
    generalize zb (f_X5_dotIn (nI c) (nI h) ^^^ (-1)) i = d'
    revert this
    cases a <;> cases b <;> cases d' <;> simp
  unfold f_X0_fix
  by_cases q1 : x = (-1)
  · rw [if_pos q1]
    by_cases q2 : x = 1
    · subst q1
      exact absurd q2 (by decide)
    · rw [if_neg q2]
      exact key _ _ d2 e3
  · rw [if_neg q1]
    by_cases q2 : x = 1
    · rw [if_pos q2]
      exact key _ _ d1 e1
    · rw [if_neg q2]
      exact key _ _ d2 e2
theorem zB_renew {w t : Nat} {fl wr : Nat → Nat} {B : q_Bd} (hB : zB w t fl wr B) {c : Nat} (hc : c < w) : zB w t fl (fun j => if j = c then 0 else wr j) (f_X0_renewColumn B (nI c)) := by
  obtain ⟨h4, h8, ht, hw, h1, h2, h3, h5, h6⟩ := hB
  unfold f_X0_renewColumn
  generalize ((31 : Int64) <<< ((f_X5_bitOf (nI c) 0).toInt64 &&& 63)) ^^^ (-1) = kp
  refine ⟨h4, h8, ht, hw, h1, ?_, ?_, ?_, ?_⟩
  · intro j hj
    show f_X5_put 8 B.2.1 (nI c) 0 j = nI (if j = c then 0 else wr j) ∧ (if j = c then 0 else wr j) ≤ zF fl j
    rw [z_put (by omega) (by decide)]
    by_cases q : j = c
    · subst q
      rw [pk_us, if_pos rfl]
      exact ⟨rfl, Nat.zero_le _⟩
    · rw [pk_un q, if_neg q]
      exact h2 j hj
  · apply zb_ext
    intro i hi
    have h7 := congrArg (fun z => zb z i) h3
    simp only [z_ws_bit B _ hi] at h7
    rw [z_ws_bit _ _ hi]
    show ((zb (B.2.2.2.1 &&& kp) i && !zb (B.2.2.2.2.1 &&& kp) i) || zb (B.2.2.2.2.2 &&& kp) i) = zb (B.2.2.2.1 &&& kp) i
    rw [zb_and, zb_and, zb_and]
    generalize zb B.2.2.2.1 i = a at h7 ⊢
    generalize zb B.2.2.2.2.1 i = b at h7 ⊢
    generalize zb B.2.2.2.2.2 i = c at h7 ⊢
    generalize zb kp i = k
    revert h7
    cases a <;> cases b <;> cases c <;> cases k <;> simp
  · intro i hi
    show zb (B.2.2.2.1 &&& kp) i = false ∧ zb (B.2.2.2.2.2 &&& kp) i = false
    rw [zb_and, zb_and, (h5 i hi).1, (h5 i hi).2]
    exact ⟨rfl, rfl⟩
  · intro i hi
    show zb (B.2.2.2.2.2 &&& kp) i = true → zb (B.2.2.2.2.1 &&& kp) i = true
    have := h6 i hi
    rw [zb_and, zb_and]
    generalize zb B.2.2.2.2.2 i = a at this ⊢
    generalize zb B.2.2.2.2.1 i = b at this ⊢
    generalize zb kp i = d'
    revert this
    cases a <;> cases b <;> cases d' <;> simp
/-! the board behind a change -/
def zc5 (x : Int64) (c : Nat) : Nat := fb_ct (fun h => zb x (5 * c + h)) 5
theorem z_sm_ct (p : Nat → Bool) : ∀ n, fb_sm (fun k => if p k = true then 1 else 0) n = fb_ct p n
  | 0 => rfl
  | n + 1 => by rw [fb_sm_succ, fb_ct_succ, z_sm_ct p n]
theorem z_c5_sum (x : Int64) : ∀ w, fb_sm (zc5 x) w = fb_ct (zb x) (5 * w)
  | 0 => rfl
  | w + 1 => by
    rw [fb_sm_succ, z_c5_sum x w, show 5 * (w + 1) = 5 * w + 5 by omega, fb_ct_split]
    rfl
theorem z_c5_64 {x : Int64} {w : Nat} (hw : w ≤ 8) (h : ∀ i, 5 * w ≤ i → zb x i = false) : fb_sm (zc5 x) w = fb_ct (zb x) 64 := by
  rw [z_c5_sum, show 64 = 5 * w + (64 - 5 * w) by omega, fb_ct_split]
  have : fb_ct (fun k => zb x (5 * w + k)) (64 - 5 * w) = 0 := fb_ct_zero.mpr (fun k hk => h _ (by omega))
  omega
def zflT (fl : Nat → Nat) (x : Int64) (j : Nat) : Nat := fl j + if zb x j = true then 1 else 0
def zwrT (wr : Nat → Nat) (x : Int64) (w c : Nat) : Nat := if c < w then wr c + zc5 x c else wr c
theorem zF_T (fl : Nat → Nat) (x : Int64) (c : Nat) : zF (zflT fl x) c = zF fl c + zc5 x c := by
  unfold zF zflT zc5
  rw [fb_sm_add, z_sm_ct]
theorem zSF_T (fl : Nat → Nat) (x : Int64) (w : Nat) : fb_sm (zF (zflT fl x)) w = fb_sm (zF fl) w + fb_sm (zc5 x) w := by
  rw [← fb_sm_add]
  exact fb_sm_cong (fun c _ => zF_T fl x c)
theorem zB_turn {w t : Nat} {fl wr : Nat → Nat} {B : q_Bd} (hB : zB w t fl wr B) (ht1 : t < 1000) {x : Int64} (hx : f_X0_withStuck B x = x) (hx2 : ∀ i, 5 * w ≤ i → zb x i = false) : ∃ B', f_X0_turnTo B x = some B' ∧ zB w (t + 1) (zflT fl (B.2.2.2.1 ^^^ x)) (zwrT wr (B.2.2.2.1 ^^^ x) w) B' ∧ B'.2.2.2.1 = x ∧ B'.2.2.2.2.1 = B.2.2.2.2.1 ∧ B'.2.2.2.2.2 = B.2.2.2.2.2 := by
  obtain ⟨h4, h8, ht, hw, h1, h2, h3, h5, h6⟩ := hB
  refine ⟨_, z_turnTo B x h8 hw, ⟨h4, h8, by omega, rfl, ?_, ?_, ?_, ?_, h6⟩, rfl, rfl, rfl⟩
  · intro j hj
    show fa_fill (zff B.2.2.2.1 x B.1) B.1 40 j = _ ∧ _
    rw [fa_fill_in hj]
    unfold zff zflT
    rw [(h1 j hj).1, z_bit1 _ (by omega), nI_add]
    refine ⟨rfl, ?_⟩
    have := (h1 j hj).2
    split <;> omega
  · intro c hc
    show fa_fill (zwf B.2.2.2.1 x B.2.1) B.2.1 w c = _ ∧ _
    rw [zF_T]
    unfold zwrT
    have hc2 := h2 c hc
    by_cases q : c < w
    · rw [fa_fill_in q, if_pos q]
      unfold zwf
      rw [hc2.1, zpc5 _ (by omega), nI_add]
      exact ⟨rfl, by unfold zc5; omega⟩
    · rw [fa_fill_out (by omega), if_neg q]
      exact ⟨hc2.1, by omega⟩
  · exact hx
  · intro i hi
    exact ⟨hx2 i hi, (h5 i hi).2⟩
theorem zB_0 {w : Nat} (h4 : 4 ≤ w) (h8 : w ≤ 8) : zB w 0 (fun _ => 0) (fun _ => 0) (zB0 w) := by
  refine ⟨h4, h8, by omega, rfl, fun j _ => ⟨rfl, Nat.le_refl _⟩, fun c _ => ⟨rfl, Nat.zero_le _⟩, ?_, ?_, fun i _ h => h⟩
  · apply zb_ext
    intro i hi
    rw [z_ws_bit _ _ hi]
    show ((zb 0 i && !zb 0 i) || zb 0 i) = zb 0 i
    rw [zb_0]
    rfl
  · intro i hi
    exact ⟨zb_0 i, zb_0 i⟩
