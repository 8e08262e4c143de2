/-! a sign with such dots -/
theorem z_bit32 {a : Nat} (ha : a < 256) {h : Nat} (hh : h < 8) : (nI a >>> (nI h &&& 31)) &&& 1 = nI (if a.testBit h = true then 1 else 0) := by
  apply b_ext
  intro i hi
  have b1 : ∀ i, i < 32 → bt 1 i = decide (i = 0) := by decide +kernel
  rw [b_and, b1 i hi, b_sshr h (by omega) _ hi]
  by_cases q : i = 0
  · subst q
    rw [if_pos (by omega), bt_nI a (by omega), Nat.add_zero]
    by_cases q2 : a.testBit h = true
    · rw [if_pos q2, q2]
      rfl
    · rw [if_neg q2]
      simp only [Bool.not_eq_true] at q2
      rw [q2]
      rfl
  · rw [decide_eq_false q, Bool.and_false]
    by_cases q2 : a.testBit h = true
    · rw [if_pos q2]
      exact ((b1 i hi).trans (decide_eq_false q)).symm
    · rw [if_neg q2]
      exact (b_0 i).symm
/-- the dots ahead of t are stuck as P has them, the others dark and free -/
def zO (w : Nat) (P : Int64) (t : Nat) (B : q_Bd) : Prop := B.2.2.1 = nI w ∧ ∀ i, i < 64 → (i < t → zb B.2.2.2.2.1 i = true ∧ zb B.2.2.2.2.2 i = zb P i ∧ zb B.2.2.2.1 i = zb P i) ∧ (t ≤ i → zb B.2.2.2.2.1 i = false ∧ zb B.2.2.2.2.2 i = false ∧ zb B.2.2.2.1 i = false)
theorem zO_fix {w : Nat} {P : Int64} {c h : Nat} (hc : c < w) (hw : w ≤ 8) (hh : h < 5) {B : q_Bd} (hB : zO w P (5 * c + h) B) : zO w P (5 * c + (h + 1)) (f_X0_fix B (nI c) (nI h) (nI (if zb P (5 * c + h) = true then 1 else 0))) := by
  obtain ⟨h1, h2⟩ := hB
  have key : ∀ b : Int64, (∀ i, i < 64 → zb b i = if i = 5 * c + h then zb P i else zb B.2.2.2.2.2 i) → zO w P (5 * c + (h + 1)) (B.1, B.2.1, B.2.2.1, f_X0_withStuck (B.1, B.2.1, B.2.2.1, B.2.2.2.1, B.2.2.2.2.1 ||| f_X5_dotIn (nI c) (nI h), b) B.2.2.2.1, B.2.2.2.2.1 ||| f_X5_dotIn (nI c) (nI h), b) := by
    intro b hb
    refine ⟨h1, fun i hi => ?_⟩
    show (_ → zb (B.2.2.2.2.1 ||| f_X5_dotIn (nI c) (nI h)) i = true ∧ zb b i = zb P i ∧ zb (f_X0_withStuck (B.1, B.2.1, B.2.2.1, B.2.2.2.1, B.2.2.2.2.1 ||| f_X5_dotIn (nI c) (nI h), b) B.2.2.2.1) i = zb P i) ∧ (_ → zb (B.2.2.2.2.1 ||| f_X5_dotIn (nI c) (nI h)) i = false ∧ zb b i = false ∧ zb (f_X0_withStuck (B.1, B.2.1, B.2.2.1, B.2.2.2.1, B.2.2.2.2.1 ||| f_X5_dotIn (nI c) (nI h), b) B.2.2.2.1) i = false)
    rw [z_ws_bit _ _ hi]
    show (_ → zb (B.2.2.2.2.1 ||| f_X5_dotIn (nI c) (nI h)) i = true ∧ zb b i = zb P i ∧ ((zb B.2.2.2.1 i && !zb (B.2.2.2.2.1 ||| f_X5_dotIn (nI c) (nI h)) i) || zb b i) = zb P i) ∧ (_ → zb (B.2.2.2.2.1 ||| f_X5_dotIn (nI c) (nI h)) i = false ∧ zb b i = false ∧ ((zb B.2.2.2.1 i && !zb (B.2.2.2.2.1 ||| f_X5_dotIn (nI c) (nI h)) i) || zb b i) = false)
    rw [zb_or, z_dotIn (by omega) hh hi, hb i hi]
    obtain ⟨a1, a2⟩ := h2 i hi
    by_cases q : i = 5 * c + h
    · rw [if_pos q, decide_eq_true q, Bool.or_true]
      refine ⟨fun _ => ⟨rfl, rfl, ?_⟩, fun h => absurd h (by omega)⟩
      simp
    · rw [if_neg q, decide_eq_false q, Bool.or_false]
      refine ⟨fun h => ?_, fun h => ?_⟩
      · obtain ⟨b1, b2, b3⟩ := a1 (by omega)
        rw [b1, b2, b3]
        refine ⟨rfl, rfl, ?_⟩
        cases zb P i <;> rfl
      · obtain ⟨b1, b2, b3⟩ := a2 (by omega)
        rw [b1, b2, b3]
        exact ⟨rfl, rfl, rfl⟩
  unfold f_X0_fix
  by_cases q : zb P (5 * c + h) = true
  · rw [if_pos q, if_neg (show ¬ nI 1 = (-1) by decide), if_pos (show nI 1 = 1 by decide)]
    refine key _ (fun i hi => ?_)
    rw [zb_or, z_dotIn (by omega) hh hi]
    by_cases e : i = 5 * c + h
    · rw [if_pos e, decide_eq_true e, Bool.or_true, e, q]
    · rw [if_neg e, decide_eq_false e, Bool.or_false]
  · rw [if_neg q, if_neg (show ¬ nI 0 = (-1) by decide), if_neg (show ¬ nI 0 = 1 by decide)]
    refine key _ (fun i hi => ?_)
    rw [zb_and, zb_not _ hi, z_dotIn (by omega) hh hi]
    by_cases e : i = 5 * c + h
    · rw [if_pos e, decide_eq_true e, e]
      simp only [Bool.not_eq_true] at q
      rw [q]
      simp
    · rw [if_neg e, decide_eq_false e]
      simp
theorem z_right20 {w : Nat} (hw : w ≤ 8) {P : Int64} {fp : q_IA} (hfp : ∀ c, c < w → fp c = f_X5_setIn P (nI c)) {B0 : q_Bd} (h0 : zO w P 0 B0) : ∃ B', fl_L_isRight_20 w fp 1000 0 B0 = some (nI w, B') ∧ zO w P (5 * w) B' := by
  have inner : ∀ c, c < w → ∀ d h n B, h + d = 5 → d < n → zO w P (5 * c + h) B → ∃ B', fl_L_isRight_30 w fp (nI c) n (nI h) B = some (nI 5, B') ∧ zO w P (5 * (c + 1)) B' := by
    intro c hc d
    induction d with
    | zero =>
      intro h n B hh hn hB
      obtain ⟨n, rfl, -⟩ := z_suc hn
      obtain rfl : h = 5 := by omega
      refine ⟨B, ?_, by rw [show 5 * (c + 1) = 5 * c + 5 by omega]; exact hB⟩
      rw [fl_L_isRight_30]
      exact if_pos (show (5 : Int32) ≤ nI 5 from nI_le (a := 5) (Nat.le_refl _) (by omega))
    | succ d ih =>
      intro h n B hh hn hB
      obtain ⟨n, rfl, hn2⟩ := z_suc hn
      rw [fl_L_isRight_30, if_neg (show ¬ (5 : Int32) ≤ nI h from nI_ge (b := 5) (by omega) (by decide)), if_pos (zq_ix hc (by omega)), nI_clamp (by omega), hfp c hc, nI_1]
      have ev : (f_X5_setIn P (nI c) >>> (nI h &&& 31)) &&& 1 = nI (if zb P (5 * c + h) = true then 1 else 0) := by
        obtain ⟨s, hs, e⟩ := zs_lt P (nI c)
        rw [e, z_bit32 (show s < 256 by omega) (show h < 8 by omega), ← bt_nI s (show h < 32 by omega), ← e, zs_bit P (by omega) (show h < 32 by omega), decide_eq_true (show h < 5 by omega), Bool.true_and]
      rw [ev, z_stick hB.1 hw hc (show h < 5 by omega) (by split <;> decide) (by split <;> decide)]
      exact ih (h + 1) n _ (by omega) (by omega) (zO_fix hc hw (by omega) hB)
  have outer : ∀ d c n B, c + d = w → d < n → zO w P (5 * c) B → ∃ B', fl_L_isRight_20 w fp n (nI c) B = some (nI w, B') ∧ zO w P (5 * w) B' := by
    intro d
    induction d with
    | zero =>
      intro c n B hc hn hB
      obtain ⟨n, rfl, -⟩ := z_suc hn
      obtain rfl : c = w := by omega
      refine ⟨B, ?_, hB⟩
      rw [fl_L_isRight_20]
      exact if_pos (nI_le (Nat.le_refl _) (by omega))
    | succ d ih =>
      intro c n B hc hn hB
      obtain ⟨n, rfl, hn2⟩ := z_suc hn
      obtain ⟨B1, e1, e2⟩ := inner c (by omega) 5 0 1000 B (by omega) (by omega) hB
      obtain ⟨B2, e3, e4⟩ := ih (c + 1) n B1 (by omega) (by omega) e2
      refine ⟨B2, ?_, e4⟩
      replace e1 : fl_L_isRight_30 w fp (nI c) 1000 0 B = some (nI 5, B1) := e1
      rw [fl_L_isRight_20, if_neg (nI_ge (show c < w by omega) (by omega)), e1, nI_1]
      exact e3
  exact outer w 0 1000 B0 (by omega) (by omega) h0
theorem z_right70 {ft : q_IA} (hf : zft ft) : fl_L_isRight_70 3 ft 1000 0 q_K0 = some (3, (zLC, zLF ft, fun _ => 0, fun _ => 0, fun _ => 0, 3, 0)) := by
  have step : ∀ (i n : Nat) (K : q_Bk), i < 3 → K.2.2.2.2.2.1 = nI i → fl_L_isRight_70 3 ft (n + 1) (nI i) K = fl_L_isRight_70 3 ft n (nI (i + 1)) (upd K.1 (i + 1) 1, upd K.2.1 (i + 1) (ft i), K.2.2.1, K.2.2.2.1, K.2.2.2.2.1, nI (i + 1), K.2.2.2.2.2.2) := by
    intro i n K hi hK
    obtain ⟨v, v1, v2, v3⟩ := hf i hi
    rw [fl_L_isRight_70, if_neg (show ¬ (3 : Int32) ≤ nI i from nI_ge (b := 3) hi (by decide)), if_pos (zq_ix hi (by decide)), nI_clamp (by omega), nI_1, v3, z_letter hK hi v1 v2]
    rfl
  refine (step 0 999 q_K0 (by decide) rfl).trans ?_
  refine (step 1 998 _ (by decide) rfl).trans ?_
  refine (step 2 997 _ (by decide) rfl).trans ?_
  rw [fl_L_isRight_70]
  exact if_pos (by decide)
theorem z_K3 (ft : q_IA) (rr : Nat → Nat) : zKL ft 0 rr (zLC, zLF ft, fun _ => 0, fun _ => 0, fun _ => 0, 3, 0) :=
  ⟨rfl, rfl, rfl, rfl, by omega, fun k hk => absurd hk (Nat.not_lt_zero k), fun k j _ hk => absurd hk (Nat.not_lt_zero k)⟩
theorem z_isRight {F : q_Fl} {B : q_Bd} {K : q_Bk} {ft : q_IA} {w m : Nat} {rr : Nat → Nat} (h4 : 4 ≤ w) (hw : w ≤ 8) (hf : zft ft) (hK : zKL ft m rr K) {P : Int64} (hP : ∀ i, 5 * w ≤ i → zb P i = false) {fp fz : q_IA} (hfp : ∀ c, c < w → fp c = f_X5_setIn P (nI c)) (hfz : ∀ k, k < m → fz k = 0 → ¬ zsay w (zln ft rr) K P k) (N : q_Pl) : f_L_isRight F B K N q_I0 q_T0 w fp m fz 3 ft = some (1, N) := by
  have hm : m ≤ 8 := hK.2.2.2.2.1
  have h00 : zO w P 0 (zB0 w) := ⟨rfl, fun i _ => ⟨fun h => absurd h (Nat.not_lt_zero i), fun _ => ⟨zb_0 i, zb_0 i, zb_0 i⟩⟩⟩
  obtain ⟨B', e1, e2, e3⟩ := z_right20 hw hfp h00
  have hpic : B'.2.2.2.1 = P := by
    apply zb_ext
    intro i hi
    obtain ⟨a1, a2⟩ := e3 i hi
    by_cases q : i < 5 * w
    · exact (a1 q).2.2
    · rw [(a2 (by omega)).2.2, hP i (by omega)]
  have L : ∀ d i n (K2 : q_Bk), i + d = m → d < n → zKL ft i rr K2 → ∃ K3, fl_L_isRight_98 F B K m fz (8, q_F0, zB0 w) (nI w, B') n (nI i) N K2 q_N0 = some (.inr (nI m, N, K3, q_N0)) := by
    intro d
    induction d with
    | zero =>
      intro i n K2 hi hn _
      obtain ⟨n, rfl, -⟩ := z_suc hn
      obtain rfl : i = m := by omega
      refine ⟨K2, ?_⟩
      rw [fl_L_isRight_98]
      exact if_pos (nI_le (Nat.le_refl _) (by omega))
    | succ d ih =>
      intro i n K2 hi hn h2
      obtain ⟨n, rfl, hn2⟩ := z_suc hn
      obtain ⟨r1, r2, r3, r4⟩ := hK.2.2.2.2.2.1 i (by omega)
      obtain ⟨K3, l1, l2⟩ := z_list h2 (by omega) r1 (fun k hk => hK.2.2.2.2.2.2 i k hk (by omega))
      have er : (fun k => if k = i then rr i else rr k) = rr := by
        funext k
        by_cases q : k = i
        · rw [if_pos q, q]
        · rw [if_neg q]
      rw [er] at l2
      obtain ⟨K4, g⟩ := ih (i + 1) n K3 (by omega) (by omega) l2
      refine ⟨K4, ?_⟩
      rw [fl_L_isRight_98, if_neg (nI_ge (show i < m by omega) (by omega)), z_of0 (hK.zK hf) (show i < m by omega), Option.bind_some, r2]
      rw [show (nI (rr i), N).1 = nI (rr i) from rfl, l1, Option.bind_some]
      refine (if_pos rfl).trans ((if_pos (zq_ix (show i < m by omega) (by omega))).trans ?_)
      rw [nI_clamp (by omega), nI_1]
      by_cases q : fz i = 0
      · refine (if_pos q).trans ?_
        have hns : ¬ zsay w (zln ft rr) K3 B'.2.2.2.1 i := by
          rintro ⟨o, ho, eo⟩
          refine hfz i (by omega) q ⟨o, ho, ?_⟩
          rw [hpic, z_placed (l2.zK hf) (show i < i + 1 by omega)] at eo
          rw [z_placed (hK.zK hf) (show i < m by omega), r4, eo, (l2.2.2.2.2.2.1 i (by omega)).2.2.2]
        rcases z_of5 (F := q_F0) e2 hw (l2.zK hf) (show i < i + 1 by omega) with ⟨hs, -⟩ | ⟨-, hs⟩
        · exact absurd hs hns
        · show ((f_X5_ofLine q_F0 B' K3 q_N0 (nI i) 5).bind fun x_98007 => (if x_98007.1 = 1 then some (.inl (0, N)) else fl_L_isRight_98 F B K m fz (8, q_F0, zB0 w) (nI w, B') n (nI (i + 1)) N K3 x_98007.2)) = _
          rw [hs, Option.bind_some]
          refine (if_neg (show ¬ ((0 : Int32), q_N0).1 = 1 by decide)).trans ?_
          exact g
      · refine (if_neg q).trans ?_
        exact g
  obtain ⟨K3, hL⟩ := L m 0 1000 (zLC, zLF ft, fun _ => 0, fun _ => 0, fun _ => 0, 3, 0) (by omega) (by omega) (z_K3 ft rr)
  unfold f_L_isRight
  refine Option.bind_eq_some_iff.mpr ⟨_, z_width h4 hw, Option.bind_eq_some_iff.mpr ⟨_, e1, Option.bind_eq_some_iff.mpr ⟨_, z_right70 hf, Option.bind_eq_some_iff.mpr ⟨_, hL, rfl⟩⟩⟩⟩
