/-! the book by numbers -/
def zLC : q_IA := upd (upd (upd (fun _ => 0) 1 1) 2 1) 3 1
def zLF (ft : q_IA) : q_IA := upd (upd (upd (fun _ => 0) 1 (ft 0)) 2 (ft 1)) 3 (ft 2)
abbrev q_K3 : q_Bk := (fun _ => 0, fun _ => 0, fun _ => 0, fun _ => 0, fun _ => 0, 3, 0)
abbrev zrow (r : Nat) : Prop := r < 1000 ∧ r / 100 % 10 ≤ 3 ∧ r / 10 % 10 ≤ 3 ∧ r % 10 ≤ 3 ∧ f_X1_canSpell q_K3 (nI r) = some 1
theorem zrow1 : ∀ a, a < 3 → zrow (1 + a) := by decide +kernel
theorem zrow2 : ∀ a, a < 3 → ∀ b, b < 3 → zrow (10 * (1 + a) + 1 + b) := by decide +kernel
theorem zrow3 : ∀ a, a < 3 → ∀ b, b < 3 → ∀ c, c < 3 → zrow (10 * (10 * (1 + a) + 1 + b) + 1 + c) := by decide +kernel
theorem z_cs18 {K K' : q_Bk} (h : K.2.2.2.2.2.1 = K'.2.2.2.2.2.1) : ∀ n i j, fl_X1_canSpell_18 K n i j = fl_X1_canSpell_18 K' n i j := by
  intro n
  induction n with
  | zero => intros; rfl
  | succ n ih =>
    intro i j
    rw [fl_X1_canSpell_18, fl_X1_canSpell_18, h, ih]
theorem z_canSpell {K : q_Bk} (h : K.2.2.2.2.2.1 = 3) {r : Nat} (hr : zrow r) : f_X1_canSpell K (nI r) = some 1 := by
  rw [← hr.2.2.2.2]
  unfold f_X1_canSpell
  rw [z_cs18 (K := K) (K' := q_K3) h]
theorem z_hasRow {K : q_Bk} {m : Nat} {rr : Nat → Nat} (hm : m ≤ 8) (hl : K.2.2.2.2.2.2 = nI m) (hr : ∀ k, k < m → K.2.2.1 k = nI (rr k) ∧ rr k < 1000) {r : Nat} (hr1 : r < 1000) : (f_X1_hasRow K (nI r) = some 0 ∧ ∀ k, k < m → rr k ≠ r) ∨ (f_X1_hasRow K (nI r) = some 1 ∧ ∃ k, k < m ∧ rr k = r) := by
  have L : ∀ d k n, k + d = m → d < n → (∀ j, j < k → rr j ≠ r) → (fl_X1_hasRow_2 (nI r) K n (nI k) = some (.inr (nI m)) ∧ ∀ j, j < m → rr j ≠ r) ∨ (fl_X1_hasRow_2 (nI r) K n (nI k) = some (.inl 1) ∧ ∃ k, k < m ∧ rr k = r) := by
    intro d
    induction d with
    | zero =>
      intro k n hk hn hj
      obtain ⟨n, rfl, -⟩ := z_suc hn
      obtain rfl : k = m := by omega
      refine Or.inl ⟨?_, hj⟩
      rw [fl_X1_hasRow_2, hl]
      exact if_pos (nI_le (Nat.le_refl _) (by omega))
    | succ d ih =>
      intro k n hk hn hj
      obtain ⟨n, rfl, hn2⟩ := z_suc hn
      rw [fl_X1_hasRow_2, hl, if_neg (nI_ge (show k < m by omega) (by omega)), z_at (by omega) (by decide), (hr k (by omega)).1, nI_1]
      have hb := (hr k (by omega)).2
      by_cases q : rr k = r
      · exact Or.inr ⟨if_pos (by rw [q]), k, by omega, q⟩
      · rw [if_neg (by rw [nI_eq (by omega) (by omega)]; exact q)]
        refine ih (k + 1) n (by omega) (by omega) (fun j hj2 => ?_)
        rcases Nat.lt_or_ge j k with h1 | h1
        · exact hj j h1
        · obtain rfl : j = k := by omega
          exact q
  unfold f_X1_hasRow
  rcases L m 0 1000 (by omega) (by omega) (fun j hj => absurd hj (Nat.not_lt_zero j)) with ⟨h1, h2⟩ | ⟨h1, h2⟩
  · exact Or.inl ⟨Option.bind_eq_some_iff.mpr ⟨_, h1, rfl⟩, h2⟩
  · exact Or.inr ⟨Option.bind_eq_some_iff.mpr ⟨_, h1, rfl⟩, h2⟩
/-! a line out of its row -/
def zst (ft : q_IA) (d : Nat) (s : Int64 × Nat) : Int64 × Nat :=
  if d = 0 then s else (s.1 ||| ((zLF ft d).toInt64 <<< ((nI (5 * (if s.2 = 0 then 0 else s.2 + 1))).toInt64 &&& 63)), (if s.2 = 0 then 0 else s.2 + 1) + 1)
def zSt (ft : q_IA) (r : Nat) : Int64 × Nat := zst ft (r / 1 % 10) (zst ft (r / 10 % 10) (zst ft (r / 100 % 10) (zst ft (r / 1000 % 10) (0, 0))))
theorem z_LC : ∀ d, d < 4 → 0 < d → zLC d = 1 := by decide +kernel
theorem z_letterFrom {K : q_Bk} {ft : q_IA} (h2 : K.2.1 = zLF ft) {d l : Nat} (hd : d ≤ 3) (hl : l ≤ 7) : f_X1_letterFrom K (nI d) (nI l) = (zLF ft d).toInt64 <<< ((nI (5 * l)).toInt64 &&& 63) := by
  unfold f_X1_letterFrom
  rw [if_neg (show ¬ (8 : Int32) ≤ nI l from nI_ge (b := 8) (by omega) (by decide)), z_at (by omega) (by decide), z_bitOf0, h2]
theorem z_add_step {K : q_Bk} {ft : q_IA} (h1 : K.1 = zLC) (h2 : K.2.1 = zLF ft) {r u : Nat} (hr : r < 1000) (hu0 : 0 < u) (hu : u ≤ 1000) (hd : r / u % 10 ≤ 3) (s : Int64 × Nat) (hs : s.2 ≤ 6) (n : Nat) :
    fl_X1_addLine_10 (nI r) K (n + 1) s.1 (nI s.2) (nI u) = fl_X1_addLine_10 (nI r) K n (zst ft (r / u % 10) s).1 (nI (zst ft (r / u % 10) s).2) (nI (u / 10)) := by
  have hru : r / u ≤ r := Nat.div_le_self _ _
  have e : (nI r / nI u) - (nI r / nI u) / 10 * 10 = nI (r / u % 10) := by
    rw [pk_div (by omega) hu0 (by omega)]
    exact pk_rem (a := r / u) (d := 10) (by omega) (by decide) (by decide)
  have e2 : nI u / 10 = nI (u / 10) := pk_div (d := 10) (by omega) (by decide) (by decide)
  rw [fl_X1_addLine_10, if_neg (nI_nle hu0 (by omega)), if_neg (nI_ne0 hu0 (by omega)), e, e2]
  generalize r / u % 10 = d at hd
  by_cases q : d = 0
  · subst q
    rw [if_pos (show nI 0 ≤ 0 by decide)]
    rfl
  · rw [if_neg (nI_nle (by omega) (by omega))]
    have ha : f_X5_at 7 K.1 (nI d) = nI 1 := by
      rw [z_at (by omega) (by decide), h1]
      exact z_LC d (by omega) (by omega)
    unfold zst
    rw [if_neg q, ha]
    by_cases q2 : s.2 = 0
    · rw [q2, if_pos (show nI 0 ≤ 0 by decide), if_pos rfl]
      have e3 : nI 0 + 0 = nI 0 := rfl
      rw [e3, z_letterFrom h2 hd (by omega), nI_add]
    · rw [if_neg (nI_nle (by omega) (by omega)), if_neg q2, nI_1, z_letterFrom h2 hd (by omega), nI_add]
theorem zst_2 (ft : q_IA) (d : Nat) (s : Int64 × Nat) {b : Nat} (h : s.2 ≤ b) : (zst ft d s).2 ≤ b + 2 := by
  unfold zst
  by_cases q : d = 0
  · rw [if_pos q]
    omega
  · rw [if_neg q]
    show (if s.2 = 0 then 0 else s.2 + 1) + 1 ≤ b + 2
    split <;> omega
theorem z_add_loop {K : q_Bk} {ft : q_IA} (h1 : K.1 = zLC) (h2 : K.2.1 = zLF ft) {r : Nat} (hr : zrow r) : fl_X1_addLine_10 (nI r) K 1000 0 0 1000 = some ((zSt ft r).1, nI (zSt ft r).2, 0) := by
  obtain ⟨r1, r2, r3, r4, -⟩ := hr
  refine (z_add_step h1 h2 (u := 1000) r1 (by decide) (by decide) (by omega) (0, 0) (by decide) 999).trans ?_
  have b1 := zst_2 ft (r / 1000 % 10) (0, 0) (b := 0) (Nat.le_refl 0)
  refine (z_add_step h1 h2 (u := 100) r1 (by decide) (by decide) r2 _ (by omega) 998).trans ?_
  have b2 := zst_2 ft (r / 100 % 10) _ b1
  refine (z_add_step h1 h2 (u := 10) r1 (by decide) (by decide) r3 _ (by omega) 997).trans ?_
  have b3 := zst_2 ft (r / 10 % 10) _ b2
  refine (z_add_step h1 h2 (u := 1) r1 (by decide) (by decide) (by omega) _ (by omega) 996).trans ?_
  show fl_X1_addLine_10 (nI r) K (995 + 1) (zSt ft r).1 (nI (zSt ft r).2) 0 = _
  rw [fl_X1_addLine_10, if_pos (by decide)]
theorem z_LF {ft : q_IA} (hf : ∀ j, j < 3 → ∃ v, v < 32 ∧ 0 < v ∧ ft j = nI v) {d : Nat} (hd : d ≤ 3) (h0 : d ≠ 0) : ∃ v, v < 32 ∧ zLF ft d = nI v := by
  have : d = 1 ∨ d = 2 ∨ d = 3 := by omega
  rcases this with rfl | rfl | rfl
  · obtain ⟨v, h1, -, h2⟩ := hf 0 (by decide)
    exact ⟨v, h1, h2⟩
  · obtain ⟨v, h1, -, h2⟩ := hf 1 (by decide)
    exact ⟨v, h1, h2⟩
  · obtain ⟨v, h1, -, h2⟩ := hf 2 (by decide)
    exact ⟨v, h1, h2⟩
theorem zst_b {ft : q_IA} (hf : ∀ j, j < 3 → ∃ v, v < 32 ∧ 0 < v ∧ ft j = nI v) {d : Nat} (hd : d ≤ 3) {s : Int64 × Nat} (hs : s.2 ≤ 6) (h : ∀ i, 5 * s.2 ≤ i → zb s.1 i = false) : ∀ i, 5 * (zst ft d s).2 ≤ i → zb (zst ft d s).1 i = false := by
  intro i hi
  unfold zst at hi ⊢
  by_cases q : d = 0
  · rw [if_pos q] at hi ⊢
    exact h i hi
  · rw [if_neg q] at hi ⊢
    replace hi : 5 * ((if s.2 = 0 then 0 else s.2 + 1) + 1) ≤ i := hi
    show zb (s.1 ||| _) i = false
    by_cases q3 : i < 64
    · obtain ⟨v, hv, e⟩ := z_LF hf hd q
      have hl : (if s.2 = 0 then 0 else s.2 + 1) ≤ 7 := by split <;> omega
      have hl2 : s.2 ≤ (if s.2 = 0 then 0 else s.2 + 1) := by split <;> omega
      generalize (if s.2 = 0 then 0 else s.2 + 1) = l at hi hl hl2 ⊢
      rw [zb_or, h i (by omega), zb_shl _ _ (by omega) q3, e, zb_i64 (by omega) (by omega), Nat.testBit_lt_two_pow (show v < 2 ^ (i - 5 * l) from Nat.lt_of_lt_of_le hv (show 2 ^ 5 ≤ 2 ^ (i - 5 * l) from Nat.pow_le_pow_right (by decide) (by omega)))]
      simp
    · exact zb_big (by omega)
theorem zSt_b {ft : q_IA} (hf : ∀ j, j < 3 → ∃ v, v < 32 ∧ 0 < v ∧ ft j = nI v) {r : Nat} (hr : zrow r) : (zSt ft r).2 ≤ 8 ∧ ∀ i, 5 * (zSt ft r).2 ≤ i → zb (zSt ft r).1 i = false := by
  obtain ⟨r1, r2, r3, r4, -⟩ := hr
  have b1 := zst_2 ft (r / 1000 % 10) (0, 0) (b := 0) (Nat.le_refl 0)
  have b2 := zst_2 ft (r / 100 % 10) _ b1
  have b3 := zst_2 ft (r / 10 % 10) _ b2
  have b4 := zst_2 ft (r / 1 % 10) _ b3
  refine ⟨b4, ?_⟩
  have c1 := zst_b hf (d := r / 1000 % 10) (by omega) (s := (0, 0)) (by decide) (fun i _ => zb_0 i)
  have c2 := zst_b hf (d := r / 100 % 10) r2 (by omega) c1
  have c3 := zst_b hf (d := r / 10 % 10) r3 (by omega) c2
  exact zst_b hf (d := r / 1 % 10) (by omega) (by omega) c3
/-! what the book holds -/
def zK (m : Nat) (ln : Nat → Nat) (K : q_Bk) : Prop := K.2.2.2.2.2.2 = nI m ∧ m ≤ 8 ∧ ∀ k, k < m → K.2.2.2.1 k = nI (ln k) ∧ ln k ≤ 8 ∧ ∀ i, 5 * ln k ≤ i → zb (K.2.2.2.2.1 k) i = false
def zKL (ft : q_IA) (m : Nat) (rr : Nat → Nat) (K : q_Bk) : Prop :=
  K.1 = zLC ∧ K.2.1 = zLF ft ∧ K.2.2.2.2.2.1 = 3 ∧ K.2.2.2.2.2.2 = nI m ∧ m ≤ 8 ∧ (∀ k, k < m → zrow (rr k) ∧ K.2.2.1 k = nI (rr k) ∧ K.2.2.2.1 k = nI (zSt ft (rr k)).2 ∧ K.2.2.2.2.1 k = (zSt ft (rr k)).1) ∧ ∀ k j, j < k → k < m → rr j ≠ rr k
def zln (ft : q_IA) (rr : Nat → Nat) (k : Nat) : Nat := (zSt ft (rr k)).2
def zft (ft : q_IA) : Prop := ∀ j, j < 3 → ∃ v, v < 32 ∧ 0 < v ∧ ft j = nI v
theorem zKL.zK {ft : q_IA} {m : Nat} {rr : Nat → Nat} {K : q_Bk} (h : zKL ft m rr K) (hf : zft ft) : zK m (zln ft rr) K := by
  obtain ⟨-, -, -, h4, h5, h6, -⟩ := h
  refine ⟨h4, h5, fun k hk => ?_⟩
  obtain ⟨a, -, c, d⟩ := h6 k hk
  obtain ⟨e, f⟩ := zSt_b hf a
  rw [d]
  exact ⟨c, e, f⟩
theorem z_addLine {ft : q_IA} {m : Nat} {rr : Nat → Nat} {K : q_Bk} (h : zKL ft m rr K) (hm : m < 8) {r : Nat} (hr : zrow r) (hn : ∀ k, k < m → rr k ≠ r) : ∃ K', f_X1_addLine K (nI r) = some (nI m, K') ∧ zKL ft (m + 1) (fun k => if k = m then r else rr k) K' := by
  obtain ⟨h1, h2, h3, h4, h5, h6, h7⟩ := h
  unfold f_X1_addLine
  have e := z_add_loop h1 h2 hr
  refine ⟨(K.1, K.2.1, upd K.2.2.1 m (nI r), upd K.2.2.2.1 m (nI (zSt ft r).2), vp_updL K.2.2.2.2.1 m (zSt ft r).1, K.2.2.2.2.2.1, nI (m + 1)), Option.bind_eq_some_iff.mpr ⟨_, e, ?_⟩, ?_⟩
  · rw [h4, z_put (by omega) (by decide), z_put (by omega) (by decide), z_putL (by omega) (by decide), nI_1, nI_pred]
  · refine ⟨h1, h2, h3, rfl, by omega, ?_, ?_⟩
    · intro k hk
      show zrow (if k = m then r else rr k) ∧ upd K.2.2.1 m (nI r) k = nI (if k = m then r else rr k) ∧ upd K.2.2.2.1 m (nI (zSt ft r).2) k = nI (zSt ft (if k = m then r else rr k)).2 ∧ vp_updL K.2.2.2.2.1 m (zSt ft r).1 k = (zSt ft (if k = m then r else rr k)).1
      by_cases q : k = m
      · subst q
        rw [if_pos rfl, pk_us, pk_us, pk_uLs]
        exact ⟨hr, rfl, rfl, rfl⟩
      · rw [if_neg q, pk_un q, pk_un q, pk_uLn q]
        exact h6 k (by omega)
    · intro k j hj hk
      show (if j = m then r else rr j) ≠ (if k = m then r else rr k)
      rw [if_neg (show ¬ j = m by omega)]
      by_cases q : k = m
      · rw [if_pos q]
        exact hn j (by omega)
      · rw [if_neg q]
        exact h7 k j hj (by omega)
theorem z_list {ft : q_IA} {m : Nat} {rr : Nat → Nat} {K : q_Bk} (h : zKL ft m rr K) (hm : m < 8) {r : Nat} (hr : zrow r) (hn : ∀ k, k < m → rr k ≠ r) : ∃ K', f_X5_list K (nI r) = some (nI m, K') ∧ zKL ft (m + 1) (fun k => if k = m then r else rr k) K' := by
  obtain ⟨K', e1, e2⟩ := z_addLine h hm hr hn
  refine ⟨K', ?_, e2⟩
  obtain ⟨h1, h2, h3, h4, h5, h6, h7⟩ := h
  unfold f_X5_list
  rw [z_canSpell h3 hr]
  show (if (1 : Int32) = 0 then none else (if 8 ≤ K.2.2.2.2.2.2 then none else ((f_X1_hasRow K (nI r)).bind fun x_4 => (if x_4 = 0 then ((f_X1_addLine K (nI r)).bind fun x_6 => some (x_6.1, x_6.2)) else none)))) = _
  rw [if_neg (by decide), h4, if_neg (show ¬ (8 : Int32) ≤ nI m from nI_ge (b := 8) (by omega) (by decide))]
  rcases z_hasRow h5 h4 (fun k hk => ⟨(h6 k hk).2.1, (h6 k hk).1.1⟩) hr.1 with ⟨a, -⟩ | a
  · rw [a]
    show (if (0 : Int32) = 0 then ((f_X1_addLine K (nI r)).bind fun x_6 => some (x_6.1, x_6.2)) else none) = _
    rw [if_pos rfl, e1]
    rfl
  · obtain ⟨-, k, hk, e⟩ := a
    exact absurd e (hn k hk)
theorem z_letter {K : q_Bk} {j v : Nat} (hj : K.2.2.2.2.2.1 = nI j) (hj3 : j < 3) (hv : v < 32) (hv0 : 0 < v) : f_X5_letter K 1 (nI v) 0 0 = some (nI (j + 1), (upd K.1 (j + 1) 1, upd K.2.1 (j + 1) (nI v), K.2.2.1, K.2.2.2.1, K.2.2.2.2.1, nI (j + 1), K.2.2.2.2.2.2)) := by
  have i1 : f_X5_isColumnSet (nI v) = 1 := by
    unfold f_X5_isColumnSet
    rw [if_neg (nI_pos (by omega)), if_neg (show ¬ (31 : Int32) < nI v from nI_nlt (a := 31) (by omega) (by decide))]
  have i2 : f_X5_isColumnSet 0 = 1 := by decide
  have e1 : (nI v ||| (0 : Int32)) ||| 0 = nI v := by rw [Int32.or_zero, Int32.or_zero]
  have e2 : (nI v ||| ((0 : Int32) <<< ((5 : Int32) &&& 31))) ||| ((0 : Int32) <<< ((10 : Int32) &&& 31)) = nI v := by
    rw [show (0 : Int32) <<< ((5 : Int32) &&& 31) = 0 by decide, show (0 : Int32) <<< ((10 : Int32) &&& 31) = 0 by decide]
    exact e1
  unfold f_X5_letter
  rw [if_neg (by decide), if_neg (by decide), i1, i2, if_neg (by decide), if_neg (by decide), if_neg (by decide), if_neg (by decide), if_pos rfl, if_neg (by decide), if_pos rfl, e1, if_neg (nI_ne0 hv0 (by omega)), hj, if_pos (show nI j < 6 from nI_lt (b := 6) (by omega) (by decide)), e2]
  unfold f_X1_addLetter
  rw [hj, nI_1]
  show some (nI (j + 1), (f_X5_put 7 K.1 (nI (j + 1)) 1, f_X5_put 7 K.2.1 (nI (j + 1)) (nI v), _)) = _
  rw [z_put (by omega) (by decide), z_put (by omega) (by decide)]
