/-! what the calls answer -/
theorem z_needLine {m : Nat} {ln : Nat → Nat} {K : q_Bk} (hK : zK m ln K) {k : Nat} (hk : k < m) : f_X5_needLine K (nI k) = some () := by
  have hm := hK.2.1
  have e : f_X5_isLine K (nI k) = 1 := by
    unfold f_X5_isLine
    rw [if_neg (nI_pos (by omega)), hK.1, if_neg (nI_ge hk (by omega))]
  unfold f_X5_needLine
  rw [e]
  exact if_neg (by decide)
theorem z_ofLine_s {F : q_Fl} {B : q_Bd} {K : q_Bk} {N : q_Pl} {m : Nat} {ln : Nat → Nat} (hK : zK m ln K) {k : Nat} (hk : k < m) {x : Int32} (h0 : ¬ x < 0) (h7 : x ≤ 7) (h6 : x < 6) : f_X5_ofLine F B K N (nI k) x = (f_X5_lineFact B K N (nI k) x).bind fun v => some (v, N) := by
  unfold f_X5_ofLine
  rw [z_needLine hK hk]
  show (if x < 0 then none else (if x ≤ 7 then (if x < 6 then ((f_X5_lineFact B K N (nI k) x).bind fun x_5 => some (x_5, N)) else ((f_X5_makePlan F B K N (nI k)).bind fun x_6 => ((f_X5_lineFact B K x_6 (nI k) x).bind fun x_7 => some (x_7, x_6)))) else none)) = _
  rw [if_neg h0, if_pos h7, if_pos h6]
theorem z_ofLine_p {F : q_Fl} {B : q_Bd} {K : q_Bk} {N : q_Pl} {m : Nat} {ln : Nat → Nat} (hK : zK m ln K) {k : Nat} (hk : k < m) {x : Int32} (h0 : ¬ x < 0) (h7 : x ≤ 7) (h6 : ¬ x < 6) : f_X5_ofLine F B K N (nI k) x = ((f_X5_makePlan F B K N (nI k)).bind fun x_6 => ((f_X5_lineFact B K x_6 (nI k) x).bind fun x_7 => some (x_7, x_6))) := by
  unfold f_X5_ofLine
  rw [z_needLine hK hk]
  show (if x < 0 then none else (if x ≤ 7 then (if x < 6 then ((f_X5_lineFact B K N (nI k) x).bind fun x_5 => some (x_5, N)) else ((f_X5_makePlan F B K N (nI k)).bind fun x_6 => ((f_X5_lineFact B K x_6 (nI k) x).bind fun x_7 => some (x_7, x_6)))) else none)) = _
  rw [if_neg h0, if_pos h7, if_neg h6]
theorem z_lf0 (B : q_Bd) (K : q_Bk) (N : q_Pl) (l : Int32) : f_X5_lineFact B K N l 0 = some (f_X5_at 8 K.2.2.1 l) := by
  unfold f_X5_lineFact
  rw [if_pos rfl]
theorem z_lf3 (B : q_Bd) (K : q_Bk) (N : q_Pl) (l : Int32) : f_X5_lineFact B K N l 3 = (f_X5_leastHarm B K l).bind fun v => some v := by
  unfold f_X5_lineFact
  rw [if_neg (by decide), if_neg (by decide), if_neg (by decide), if_pos rfl]
theorem z_lf4 (B : q_Bd) (K : q_Bk) (N : q_Pl) (l : Int32) : f_X5_lineFact B K N l 4 = (f_X5_distance B K B.2.2.2.1 l).bind fun v => some v := by
  unfold f_X5_lineFact
  rw [if_neg (by decide), if_neg (by decide), if_neg (by decide), if_neg (by decide), if_pos rfl]
theorem z_lf5 (B : q_Bd) (K : q_Bk) (N : q_Pl) (l : Int32) : f_X5_lineFact B K N l 5 = (f_X5_says B K B.2.2.2.1 l).bind fun v => (if v = 0 then some 0 else some 1) := by
  unfold f_X5_lineFact
  rw [if_neg (by decide), if_neg (by decide), if_neg (by decide), if_neg (by decide), if_neg (by decide), if_pos rfl]
theorem z_lf6 (B : q_Bd) (K : q_Bk) (N : q_Pl) (l : Int32) : f_X5_lineFact B K N l 6 = some N.2.2.2.2.2.2.2 := by
  unfold f_X5_lineFact
  rw [if_neg (by decide), if_neg (by decide), if_neg (by decide), if_neg (by decide), if_neg (by decide), if_neg (by decide), if_pos rfl]
theorem z_lf7 (B : q_Bd) (K : q_Bk) (N : q_Pl) (l : Int32) : f_X5_lineFact B K N l 7 = some (f_X2_flips N) := by
  unfold f_X5_lineFact
  rw [if_neg (by decide), if_neg (by decide), if_neg (by decide), if_neg (by decide), if_neg (by decide), if_neg (by decide), if_neg (by decide)]
theorem z_of0 {F : q_Fl} {B : q_Bd} {K : q_Bk} {m : Nat} {ln : Nat → Nat} (hK : zK m ln K) {k : Nat} (hk : k < m) (N : q_Pl) : f_X5_ofLine F B K N (nI k) 0 = some (K.2.2.1 k, N) := by
  have hm := hK.2.1
  rw [z_ofLine_s hK hk (by decide) (by decide) (by decide), z_lf0, z_at (by omega) (by decide)]
  rfl
theorem z_of3 {F : q_Fl} {B : q_Bd} {K : q_Bk} {w m : Nat} {ln : Nat → Nat} (hB : B.2.2.1 = nI w) (hw : w ≤ 8) (hK : zK m ln K) {k : Nat} (hk : k < m) : ∃ h, (∀ N, f_X5_ofLine F B K N (nI k) 3 = some (h, N)) ∧ (h = 0 → ∃ o, f_X5_bestOffset B K (nI k) = some (nI o) ∧ ln k + o ≤ w ∧ f_X5_harm B K (nI k) (nI o) = 0) := by
  obtain ⟨h, h1, h2⟩ := z_leastHarm hB hw hK hk
  refine ⟨h, fun N => ?_, h2⟩
  rw [z_ofLine_s hK hk (by decide) (by decide) (by decide), z_lf3, h1]
  rfl
theorem z_of45 {F : q_Fl} {B : q_Bd} {K : q_Bk} {w m : Nat} {ln : Nat → Nat} (hB : B.2.2.1 = nI w) (hw : w ≤ 8) (hK : zK m ln K) {k : Nat} (hk : k < m) {v : Int32} (hv : f_X5_distance B K B.2.2.2.1 (nI k) = some v) (N : q_Pl) : f_X5_ofLine F B K N (nI k) 4 = some (v, N) ∧ f_X5_ofLine F B K N (nI k) 5 = some (if v = 0 then 1 else 0, N) := by
  constructor
  · rw [z_ofLine_s hK hk (by decide) (by decide) (by decide), z_lf4, hv]
    rfl
  · rw [z_ofLine_s hK hk (by decide) (by decide) (by decide), z_lf5]
    unfold f_X5_says
    rw [hv]
    show ((if v = 0 then some (1 : Int32) else some 0).bind fun v => (if v = 0 then some (0 : Int32) else some 1)).bind _ = _
    by_cases q : v = 0
    · rw [if_pos q, if_pos q]
      rfl
    · rw [if_neg q, if_neg q]
      rfl
theorem z_of5 {F : q_Fl} {B : q_Bd} {K : q_Bk} {w m : Nat} {ln : Nat → Nat} (hB : B.2.2.1 = nI w) (hw : w ≤ 8) (hK : zK m ln K) {k : Nat} (hk : k < m) : (zsay w ln K B.2.2.2.1 k ∧ ∀ N, f_X5_ofLine F B K N (nI k) 5 = some (1, N)) ∨ (¬ zsay w ln K B.2.2.2.1 k ∧ ∀ N, f_X5_ofLine F B K N (nI k) 5 = some (0, N)) := by
  obtain ⟨v, h1, -, h2⟩ := z_dist hB hw hK hk B.2.2.2.1
  by_cases q : v = 0
  · exact Or.inl ⟨h2.mp q, fun N => by rw [(z_of45 hB hw hK hk h1 N).2, if_pos q]⟩
  · exact Or.inr ⟨mt h2.mpr q, fun N => by rw [(z_of45 hB hw hK hk h1 N).2, if_neg q]⟩
theorem z_sg2 (F : q_Fl) (B : q_Bd) (K : q_Bk) (I : q_Wi) (T : q_Rt) : f_X5_sign F B K I T 2 = some F.2.1 := by
  unfold f_X5_sign f_X5_signFact
  rw [if_neg (by decide), if_pos (by decide), if_neg (by decide), if_neg (by decide), if_pos rfl]
  rfl
theorem z_sg4 (F : q_Fl) (B : q_Bd) (K : q_Bk) (I : q_Wi) (T : q_Rt) : f_X5_sign F B K I T 4 = some K.2.2.2.2.2.2 := by
  unfold f_X5_sign f_X5_signFact
  rw [if_neg (by decide), if_pos (by decide), if_neg (by decide), if_neg (by decide), if_neg (by decide), if_neg (by decide), if_pos rfl]
  rfl
theorem z_sg5 {F : q_Fl} {B : q_Bd} {K : q_Bk} (I : q_Wi) (T : q_Rt) {r : Int32} (h : f_X5_readAs F B K B.2.2.2.1 = some r) : f_X5_sign F B K I T 5 = some r := by
  unfold f_X5_sign f_X5_signFact
  rw [if_neg (by decide), if_pos (by decide), if_neg (by decide), if_neg (by decide), if_neg (by decide), if_neg (by decide), if_neg (by decide), if_pos rfl, h]
  rfl
theorem z_sg7 {F : q_Fl} {B : q_Bd} {K : q_Bk} (I : q_Wi) (T : q_Rt) {r : Int32} (h : f_X0_allFlips B = some r) : f_X5_sign F B K I T 7 = some r := by
  unfold f_X5_sign f_X5_signFact
  rw [if_neg (by decide), if_pos (by decide), if_neg (by decide), if_neg (by decide), if_neg (by decide), if_neg (by decide), if_neg (by decide), if_neg (by decide), if_neg (by decide), if_pos rfl, h]
  rfl
theorem z_sg8 (F : q_Fl) (B : q_Bd) (K : q_Bk) (I : q_Wi) (T : q_Rt) : f_X5_sign F B K I T 8 = some F.2.2.1 := by
  unfold f_X5_sign f_X5_signFact
  rw [if_neg (by decide), if_pos (by decide), if_neg (by decide), if_neg (by decide), if_neg (by decide), if_neg (by decide), if_neg (by decide), if_neg (by decide), if_neg (by decide), if_neg (by decide), if_pos rfl]
  rfl
theorem z_needColumn {B : q_Bd} {w : Nat} (hB : B.2.2.1 = nI w) (hw : w ≤ 8) {c : Nat} (hc : c < w) : f_X5_needColumn B (nI c) = some () := by
  unfold f_X5_needColumn
  rw [if_neg (nI_pos (by omega)), hB, if_pos (nI_lt hc (by omega))]
theorem z_needDot {B : q_Bd} {w : Nat} (hB : B.2.2.1 = nI w) (hw : w ≤ 8) {c h : Nat} (hc : c < w) (hh : h < 5) : f_X5_needDot B (nI c) (nI h) = some () := by
  have e : f_X5_isHeight (nI h) = 1 := by
    unfold f_X5_isHeight
    rw [if_neg (nI_pos (by omega)), if_neg (show ¬ (5 : Int32) ≤ nI h from nI_ge (b := 5) hh (by decide))]
  unfold f_X5_needDot
  rw [z_needColumn hB hw hc, e]
  rfl
theorem z_col0 {B : q_Bd} {w : Nat} (hB : B.2.2.1 = nI w) (hw : w ≤ 8) {c : Nat} (hc : c < w) : f_X5_column B (nI c) 0 = some (f_X5_setIn B.2.2.2.1 (nI c)) := by
  unfold f_X5_column
  rw [z_needColumn hB hw hc]
  rfl
theorem z_col1 {B : q_Bd} {w : Nat} (hB : B.2.2.1 = nI w) (hw : w ≤ 8) {c : Nat} (hc : c < w) : f_X5_column B (nI c) 1 = some (B.2.1 c) := by
  unfold f_X5_column
  rw [z_needColumn hB hw hc]
  show some (f_X5_at 8 B.2.1 (nI c)) = _
  rw [z_at (by omega) (by decide)]
theorem z_dot1 {B : q_Bd} {w : Nat} (hB : B.2.2.1 = nI w) (hw : w ≤ 8) {c h : Nat} (hc : c < w) (hh : h < 5) : f_X5_dot B (nI c) (nI h) 1 = some (B.1 (5 * c + h)) := by
  unfold f_X5_dot
  rw [z_needDot hB hw hc hh]
  show some (f_X5_at 40 B.1 (f_X5_bitOf (nI c) (nI h))) = _
  rw [z_bitOf, z_at (by omega) (by decide)]
theorem z_stick {B : q_Bd} {w : Nat} (hB : B.2.2.1 = nI w) (hw : w ≤ 8) {c h : Nat} (hc : c < w) (hh : h < 5) {x : Int32} (h1 : ¬ x < (-1)) (h2 : x ≤ 1) : f_X5_stick B (nI c) (nI h) x = some (f_X0_faceOf B (nI c) (nI h), f_X0_fix B (nI c) (nI h) x) := by
  unfold f_X5_stick
  rw [z_needDot hB hw hc hh]
  show (if x < (-1) then none else (if x ≤ 1 then some (f_X0_faceOf B (nI c) (nI h), f_X0_fix B (nI c) (nI h) x) else none)) = _
  rw [if_neg h1, if_pos h2]
/-! the planned change, asked and done -/
theorem z_ask {F : q_Fl} {B : q_Bd} {K : q_Bk} {w m : Nat} {ln : Nat → Nat} (hB : B.2.2.1 = nI w) (hw : w ≤ 8) (hK : zK m ln K) {l : Nat} (hl : l < m) : ∃ (st fp : Int32) (so : Nat → Int32) (goal : Int64), zobs w m ln B K l st fp so goal ∧
    (∀ N, zN N → ∃ R, f_X5_ofLine F B K N (nI l) 6 = some (st, R) ∧ zN R) ∧ (∀ N, zN N → ∃ R, f_X5_ofLine F B K N (nI l) 7 = some (fp, R) ∧ zN R) ∧ (∀ N, zN N → ∀ j, j < 2 ^ 31 → ∃ R, f_X5_step F B K N (nI l) (nI j) = some (so j, R) ∧ zN R) ∧
    (∀ N, zN N → ∃ R, zN R ∧ (st = -1 → f_X5_show F B K N (nI l) = some (-1, F, B, R)) ∧ (st ≠ -1 → ∀ B', f_X0_turnTo B goal = some B' → f_X5_show F B K N (nI l) = some (st, (F.1, F.2.1, F.2.2.1 + st, nI l), B', R))) := by
  obtain ⟨st, fp, so, goal, ho, hr⟩ := z_makePlan (F := F) hB hw hK hl
  refine ⟨st, fp, so, goal, ho, fun N hN => ?_, fun N hN => ?_, fun N hN j hj => ?_, fun N hN => ?_⟩
  · obtain ⟨R, r1, r2, r3, -⟩ := hr N hN
    refine ⟨R, ?_, r2⟩
    rw [z_ofLine_p hK hl (by decide) (by decide) (by decide), r1]
    show ((f_X5_lineFact B K R (nI l) 6).bind fun x_7 => some (x_7, R)) = _
    rw [z_lf6, r3]
    rfl
  · obtain ⟨R, r1, r2, -, r4, -⟩ := hr N hN
    refine ⟨R, ?_, r2⟩
    rw [z_ofLine_p hK hl (by decide) (by decide) (by decide), r1]
    show ((f_X5_lineFact B K R (nI l) 7).bind fun x_7 => some (x_7, R)) = _
    rw [z_lf7, r4]
    rfl
  · obtain ⟨R, r1, r2, -, -, r5, -⟩ := hr N hN
    refine ⟨R, ?_, r2⟩
    unfold f_X5_step
    rw [z_needLine hK hl]
    show (if 0 ≤ nI j then ((f_X5_makePlan F B K N (nI l)).bind fun x_3 => some ((f_X2_setOf x_3 (nI j)), x_3)) else none) = _
    rw [if_pos (nI_pos' hj), r1]
    show some (f_X2_setOf R (nI j), R) = _
    rw [r5 j hj]
  · obtain ⟨R, r1, r2, r3, -, -, r6⟩ := hr N hN
    refine ⟨R, r2, fun h => ?_, fun h B' hB' => ?_⟩
    · unfold f_X5_show f_X5_bringUp
      rw [z_needLine hK hl, r1]
      show (((if R.2.2.2.2.2.2.2 = (-1) then some (R.2.2.2.2.2.2.2, F, B, R) else ((f_X0_turnTo B R.2.2.2.2.1).bind fun x_3 => some (R.2.2.2.2.2.2.2, (F.1, F.2.1, F.2.2.1 + R.2.2.2.2.2.2.2, nI l), x_3, R)))).bind fun x_2 => some (x_2.1, x_2.2.1, x_2.2.2.1, x_2.2.2.2)) = _
      rw [r3, h, if_pos rfl]
      rfl
    · unfold f_X5_show f_X5_bringUp
      rw [z_needLine hK hl, r1]
      show (((if R.2.2.2.2.2.2.2 = (-1) then some (R.2.2.2.2.2.2.2, F, B, R) else ((f_X0_turnTo B R.2.2.2.2.1).bind fun x_3 => some (R.2.2.2.2.2.2.2, (F.1, F.2.1, F.2.2.1 + R.2.2.2.2.2.2.2, nI l), x_3, R)))).bind fun x_2 => some (x_2.1, x_2.2.1, x_2.2.2.1, x_2.2.2.2)) = _
      rw [r3, if_neg h, (r6 h).2, hB']
      rfl
/-! the checksum -/
theorem z_digest {F : q_Fl} {B : q_Bd} {K : q_Bk} {w t m : Nat} {fl wr ln : Nat → Nat} (hB : zB w t fl wr B) (hK : zK m ln K) : ∃ S, ∀ N, zN N → ∃ R, f_X5_digest F B K N q_I0 q_T0 = some (S, R) ∧ zN R := by
  have hw := hB.2.1
  have hBw := hB.2.2.2.1
  have hm := hK.2.1
  have hK1 := hK.1
  obtain ⟨rd, hrd, -⟩ := z_readAs (F := F) hBw hw hK B.2.2.2.1
  have haf := z_allFlips hw hBw (fun j hj => (hB.2.2.2.2.1 j hj).1)
  have L1 : ∀ d i n s, i + d = 18 → d < n → ∃ z, fl_X5_digest_6 F B K q_I0 q_T0 n s (nI i) = some z := by
    intro d
    induction d with
    | zero =>
      intro i n s hi hn
      obtain ⟨n, rfl, -⟩ := z_suc hn
      obtain rfl : i = 18 := by omega
      rw [fl_X5_digest_6]
      exact ⟨_, if_pos (by decide)⟩
    | succ d ih =>
      intro i n s hi hn
      obtain ⟨n, rfl, hn2⟩ := z_suc hn
      rw [fl_X5_digest_6, if_neg (show ¬ (17 : Int32) < nI i from nI_nlt (a := 17) (by omega) (by decide)), nI_1]
      have e : ∃ v, f_X5_signFact F B K q_I0 q_T0 (nI i) = some v := by
        unfold f_X5_signFact
        rw [hrd, haf]
        repeat' split
        all_goals exact ⟨_, rfl⟩
      obtain ⟨v, hv⟩ := e
      rw [hv]
      exact ih (i + 1) n _ (by omega) (by omega)
  have L2 : ∀ c d i n s, i + d = 3 → d < n → ∃ z, fl_X5_digest_47 B c n s (nI i) = some z := by
    intro c d
    induction d with
    | zero =>
      intro i n s hi hn
      obtain ⟨n, rfl, -⟩ := z_suc hn
      obtain rfl : i = 3 := by omega
      rw [fl_X5_digest_47]
      exact ⟨_, if_pos (by decide)⟩
    | succ d ih =>
      intro i n s hi hn
      obtain ⟨n, rfl, hn2⟩ := z_suc hn
      rw [fl_X5_digest_47, if_neg (show ¬ (2 : Int32) < nI i from nI_nlt (a := 2) (by omega) (by decide)), nI_1]
      exact ih (i + 1) n _ (by omega) (by omega)
  have L3 : ∀ d i n s, i + d = w → d < n → ∃ z, fl_X5_digest_33 B n s (nI i) = some z := by
    intro d
    induction d with
    | zero =>
      intro i n s hi hn
      obtain ⟨n, rfl, -⟩ := z_suc hn
      obtain rfl : i = w := by omega
      rw [fl_X5_digest_33, hBw]
      exact ⟨_, if_pos (nI_le (Nat.le_refl _) (by omega))⟩
    | succ d ih =>
      intro i n s hi hn
      obtain ⟨n, rfl, hn2⟩ := z_suc hn
      obtain ⟨z, hz⟩ := L2 (nI i) 3 0 1000 s (by omega) (by omega)
      replace hz : fl_X5_digest_47 B (nI i) 1000 s 0 = some z := hz
      rw [fl_X5_digest_33, hBw, if_neg (nI_ge (show i < w by omega) (by omega)), hz, nI_1]
      exact ih (i + 1) n _ (by omega) (by omega)
  have L4 : ∀ l, l < m → ∀ s, ∃ S, ∀ N, zN N → ∃ R, f_X5_addLineTo F B K N s (nI l) = some (S, R) ∧ zN R := by
    intro l hl s
    obtain ⟨st, fp, so, goal, -, hr⟩ := z_makePlan (F := F) hBw hw hK hl
    obtain ⟨rg, hrg⟩ := z_readOfGoal (F := F) hBw hw hK hl
    obtain ⟨lh, hlh, -⟩ := z_leastHarm hBw hw hK hl
    obtain ⟨dv, hdv, -⟩ := z_dist hBw hw hK hl B.2.2.2.1
    have hbo : ∃ b, f_X5_bestOffset B K (nI l) = some b := by
      rcases z_best hBw hw hK hl with ⟨e, -⟩ | ⟨o, -, e⟩
      · exact ⟨_, e⟩
      · exact ⟨_, e⟩
    obtain ⟨bo, hbo⟩ := hbo
    have hsy : ∃ b, f_X5_says B K B.2.2.2.1 (nI l) = some b := by
      rcases z_says hBw hw hK hl B.2.2.2.1 with ⟨-, e⟩ | ⟨-, e⟩
      · exact ⟨_, e⟩
      · exact ⟨_, e⟩
    obtain ⟨sy, hsy⟩ := hsy
    have fact : ∀ x, ∃ v, ∀ R : q_Pl, R.2.2.2.2.2.2.2 = st → f_X2_flips R = fp → f_X5_lineFact B K R (nI l) x = some v := by
      intro x
      unfold f_X5_lineFact
      rw [hbo, hlh, hdv, hsy]
      by_cases q0 : x = 0
      · exact ⟨_, fun R _ _ => by rw [if_pos q0]⟩
      simp only [if_neg q0]
      by_cases q1 : x = 1
      · exact ⟨_, fun R _ _ => by rw [if_pos q1]⟩
      simp only [if_neg q1]
      by_cases q2 : x = 2
      · exact ⟨bo, fun R _ _ => by rw [if_pos q2]; rfl⟩
      simp only [if_neg q2]
      by_cases q3 : x = 3
      · exact ⟨lh, fun R _ _ => by rw [if_pos q3]; rfl⟩
      simp only [if_neg q3]
      by_cases q4 : x = 4
      · exact ⟨dv, fun R _ _ => by rw [if_pos q4]; rfl⟩
      simp only [if_neg q4]
      by_cases q5 : x = 5
      · refine ⟨if sy = 0 then 0 else 1, fun R _ _ => ?_⟩
        rw [if_pos q5]
        show (if sy = 0 then some (0 : Int32) else some 1) = _
        split <;> rfl
      simp only [if_neg q5]
      by_cases q6 : x = 6
      · exact ⟨st, fun R h _ => by rw [if_pos q6, h]⟩
      simp only [if_neg q6]
      exact ⟨fp, fun R _ h => by rw [h]⟩
    have L : ∀ d i n s, i + d = 8 → d < n → ∃ z, ∀ R : q_Pl, R.2.2.2.2.2.2.2 = st → f_X2_flips R = fp → fl_X5_addLineTo_11 (nI l) B K R n s (nI i) = some z := by
      intro d
      induction d with
      | zero =>
        intro i n s hi hn
        obtain ⟨n, rfl, -⟩ := z_suc hn
        obtain rfl : i = 8 := by omega
        refine ⟨(s, nI 8), fun R _ _ => ?_⟩
        rw [fl_X5_addLineTo_11]
        exact if_pos (by decide)
      | succ d ih =>
        intro i n s hi hn
        obtain ⟨n, rfl, hn2⟩ := z_suc hn
        obtain ⟨v, hv⟩ := fact (nI i)
        obtain ⟨z, hz⟩ := ih (i + 1) n (s * 31 + v.toInt64) (by omega) (by omega)
        refine ⟨z, fun R h1 h2 => ?_⟩
        rw [fl_X5_addLineTo_11, if_neg (show ¬ (7 : Int32) < nI i from nI_nlt (a := 7) (by omega) (by decide)), nI_1, hv R h1 h2]
        exact hz R h1 h2
    obtain ⟨z, hz⟩ := L 7 1 1000 s (by omega) (by omega)
    refine ⟨(((((z.1 * 31) + ((so 0).toInt64)) * 31) + ((so 1).toInt64)) * 31) + rg.toInt64, fun N hN => ?_⟩
    obtain ⟨R, r1, r2, r3, r4, r5, -⟩ := hr N hN
    refine ⟨R, ?_, r2⟩
    unfold f_X5_addLineTo
    refine Option.bind_eq_some_iff.mpr ⟨_, r1, Option.bind_eq_some_iff.mpr ⟨_, hz R r3 r4, Option.bind_eq_some_iff.mpr ⟨_, hrg, ?_⟩⟩⟩
    rw [show f_X2_setOf R 0 = so 0 from r5 0 (by decide), show f_X2_setOf R 1 = so 1 from r5 1 (by decide)]
  have L5 : ∀ d i n s, i + d = m → d < n → ∃ S, ∀ N, zN N → ∃ x R, fl_X5_digest_82 F B K n s (nI i) N = some (S, x, R) ∧ zN R := by
    intro d
    induction d with
    | zero =>
      intro i n s hi hn
      obtain ⟨n, rfl, -⟩ := z_suc hn
      obtain rfl : i = m := by omega
      refine ⟨s, fun N hN => ⟨nI i, N, ?_, hN⟩⟩
      rw [fl_X5_digest_82, hK1]
      exact if_pos (nI_le (Nat.le_refl _) (by omega))
    | succ d ih =>
      intro i n s hi hn
      obtain ⟨n, rfl, hn2⟩ := z_suc hn
      obtain ⟨S1, h1⟩ := L4 i (by omega) s
      obtain ⟨S2, h2⟩ := ih (i + 1) n S1 (by omega) (by omega)
      refine ⟨S2, fun N hN => ?_⟩
      obtain ⟨R1, a1, a2⟩ := h1 N hN
      obtain ⟨x, R2, b1, b2⟩ := h2 R1 a2
      refine ⟨x, R2, ?_, b2⟩
      rw [fl_X5_digest_82, hK1, if_neg (nI_ge (show i < m by omega) (by omega)), nI_1, a1]
      exact b1
  obtain ⟨z3, e3⟩ := L1 18 0 1000 3769 (by omega) (by omega)
  obtain ⟨z7, e7⟩ := L3 w 0 1000 z3.1 (by omega) (by omega)
  obtain ⟨S, hS⟩ := L5 m 0 1000 z7.1 (by omega) (by omega)
  refine ⟨S * 31 + (1 : Int32).toInt64, fun N hN => ?_⟩
  obtain ⟨x, R, r1, r2⟩ := hS N hN
  obtain ⟨R2, s1, s2⟩ := z_isSound (F := F) hB hK r2
  refine ⟨R2, ?_, s2⟩
  unfold f_X5_digest
  refine Option.bind_eq_some_iff.mpr ⟨_, e3, Option.bind_eq_some_iff.mpr ⟨_, e7, Option.bind_eq_some_iff.mpr ⟨_, r1, Option.bind_eq_some_iff.mpr ⟨_, s1, ?_⟩⟩⟩⟩
  exact if_neg (show ¬ (1 : Int32) = 0 by decide)
