/-! the law answers 1 -/
theorem z_below (x : Int32) {n : Nat} (h0 : 0 < n) (hn : n < 2 ^ 31) : ∃ j, j < n ∧ f_L_below x (nI n) = some (nI j) := by
  obtain ⟨j, hj, e⟩ := pk_andE x (m := 2147483647) 31 rfl
  refine ⟨j % n, Nat.mod_lt _ h0, ?_⟩
  unfold f_L_below
  rw [if_neg (nI_ne0 h0 hn), e, pk_rem hj h0 hn]
theorem z_cell {L : Nat} (hL : L ≤ 260) (xs : Nat → Int32) {i : Nat} (hi : i < 1000) : ∃ v, f_L_cell L xs (nI i) = some v := by
  unfold f_L_cell
  by_cases q : L ≤ i
  · exact ⟨_, if_pos (nI_le q (by omega))⟩
  · refine ⟨_, (if_neg (nI_ge (show i < L by omega) (by omega))).trans (if_pos (zq_ix (show i < L by omega) (by omega)))⟩
theorem z_law33 {L : Nat} (hL : L ≤ 260) (xs : Nat → Int32) : ∃ ft, zft ft ∧ fl_L_law_33 L xs 1000 0 q_K0 (fun _ => 0) = some (3, (zLC, zLF ft, fun _ => 0, fun _ => 0, fun _ => 0, 3, 0), ft) := by
  have step : ∀ (i n : Nat) (K : q_Bk) (A : q_IA), i < 3 → K.2.2.2.2.2.1 = nI i → ∃ v, v < 32 ∧ 0 < v ∧ fl_L_law_33 L xs (n + 1) (nI i) K A = fl_L_law_33 L xs n (nI (i + 1)) (upd K.1 (i + 1) 1, upd K.2.1 (i + 1) (nI v), K.2.2.1, K.2.2.2.1, K.2.2.2.2.1, nI (i + 1), K.2.2.2.2.2.2) (upd A i (nI v)) := by
    intro i n K A hi hK
    obtain ⟨c, hc⟩ := z_cell hL xs (show i + 1 < 1000 by omega)
    obtain ⟨b, hb, eb⟩ := z_below c (n := 31) (by decide) (by decide)
    replace eb : f_L_below c 31 = some (nI b) := eb
    refine ⟨1 + b, by omega, by omega, ?_⟩
    have e1 : (1 : Int32) + nI b = nI (1 + b) := nI_add 1 b
    rw [fl_L_law_33, if_neg (show ¬ (3 : Int32) ≤ nI i from nI_ge (b := 3) hi (by decide)), nI_1, hc, Option.bind_some, eb, Option.bind_some]
    refine (if_pos (zq_ix (n := 3) hi (by decide))).trans ?_
    rw [nI_clamp (by omega), e1, pk_us, z_letter hK hi (by omega) (by omega), Option.bind_some]
  obtain ⟨v0, a0, b0, e0⟩ := step 0 999 q_K0 (fun _ => 0) (by decide) rfl
  obtain ⟨v1, a1, b1, e1⟩ := step 1 998 (upd (fun _ => 0) 1 1, upd (fun _ => 0) 1 (nI v0), fun _ => 0, fun _ => 0, fun _ => 0, nI 1, 0) (upd (fun _ => 0) 0 (nI v0)) (by decide) rfl
  obtain ⟨v2, a2, b2, e2⟩ := step 2 997 (upd (upd (fun _ => 0) 1 1) 2 1, upd (upd (fun _ => 0) 1 (nI v0)) 2 (nI v1), fun _ => 0, fun _ => 0, fun _ => 0, nI 2, 0) (upd (upd (fun _ => 0) 0 (nI v0)) 1 (nI v1)) (by decide) rfl
  refine ⟨upd (upd (upd (fun _ => 0) 0 (nI v0)) 1 (nI v1)) 2 (nI v2), ?_, ?_⟩
  · intro j hj
    have : j = 0 ∨ j = 1 ∨ j = 2 := by omega
    rcases this with rfl | rfl | rfl
    · exact ⟨v0, a0, b0, rfl⟩
    · exact ⟨v1, a1, b1, rfl⟩
    · exact ⟨v2, a2, b2, rfl⟩
  · refine e0.trans (e1.trans (e2.trans ?_))
    rw [fl_L_law_33]
    exact if_pos (by decide)
theorem z_row (x : Int32) : ∃ r y, zrow r ∧ ((f_L_below x 3).bind fun x_1 => ((f_L_below (x / 3) 3).bind fun x_2 => fl_L_list_16 x 1000 (1 + x_1) x_2)) = some (nI r, y) := by
  have bl : ∀ z : Int32, ∃ j, j < 3 ∧ f_L_below z 3 = some (nI j) := fun z => z_below z (n := 3) (by decide) (by decide)
  obtain ⟨a, ha, ea⟩ := bl x
  obtain ⟨b, hb, eb⟩ := bl (x / 3)
  have step : ∀ (n r i : Nat), 0 < i → i < 3 → ∃ c, c < 3 ∧ fl_L_list_16 x (n + 1) (nI r) (nI i) = fl_L_list_16 x n (nI (10 * r + 1 + c)) (nI (i - 1)) := by
    intro n r i h0 h3
    obtain ⟨c, hc, ec⟩ := bl (x / 9 + nI i)
    refine ⟨c, hc, ?_⟩
    rw [fl_L_list_16, if_neg (nI_nle h0 (by omega)), ec, Option.bind_some]
    rw [show (10 : Int32) * nI r = nI (10 * r) from pk_mul 10 r, nI_1, nI_add, sb_m1 h0]
  have stop : ∀ (n r : Nat), fl_L_list_16 x (n + 1) (nI r) (nI 0) = some (nI r, nI 0) := by
    intro n r
    rw [fl_L_list_16]
    exact if_pos (by decide)
  rw [ea, Option.bind_some, eb, Option.bind_some, show (1 : Int32) + nI a = nI (1 + a) from nI_add 1 a]
  have : b = 0 ∨ b = 1 ∨ b = 2 := by omega
  rcases this with rfl | rfl | rfl
  · exact ⟨1 + a, nI 0, zrow1 a ha, stop 999 _⟩
  · obtain ⟨c, hc, ec⟩ := step 999 (1 + a) 1 (by decide) (by decide)
    exact ⟨10 * (1 + a) + 1 + c, nI 0, zrow2 a ha c hc, ec.trans (stop 998 _)⟩
  · obtain ⟨c, hc, ec⟩ := step 999 (1 + a) 2 (by decide) (by decide)
    obtain ⟨e, he, ee⟩ := step 998 (10 * (1 + a) + 1 + c) 1 (by decide) (by decide)
    exact ⟨10 * (10 * (1 + a) + 1 + c) + 1 + e, nI 0, zrow3 a ha c hc e he, ec.trans (ee.trans (stop 997 _))⟩
theorem z_Llist {F : q_Fl} {B : q_Bd} {K : q_Bk} {N : q_Pl} {ft : q_IA} {m : Nat} {rr : Nat → Nat} (hK : zKL ft m rr K) (x : Int32) : ∃ K' m' rr', f_L_list F B K N q_I0 q_T0 x = some K' ∧ zKL ft m' rr' K' ∧ 1 ≤ m' := by
  obtain ⟨r, y, hr, e⟩ := z_row x
  have h3 := hK.2.2.1
  have h4 := hK.2.2.2.1
  have hm := hK.2.2.2.2.1
  have hcs := z_canSpell h3 hr
  obtain ⟨x1, e1, e⟩ := Option.bind_eq_some_iff.mp e
  obtain ⟨x2, e2, e⟩ := Option.bind_eq_some_iff.mp e
  have head : f_L_list F B K N q_I0 q_T0 x = ((t_X5_list K (nI r)).bind fun tt_4 => (if tt_4 = true then ((f_X5_sign F B K q_I0 q_T0 4).bind fun x_6 => some K) else ((f_X5_list K (nI r)).bind fun x_5 => some x_5.2))) := by
    unfold f_L_list
    rw [e1, Option.bind_some, e2, Option.bind_some, e, Option.bind_some]
  have tt : t_X5_list K (nI r) = (if 8 ≤ K.2.2.2.2.2.2 then some true else ((f_X1_hasRow K (nI r)).bind fun x_4 => (if x_4 = 0 then some false else some true))) := by
    unfold t_X5_list
    rw [hcs, Option.bind_some]
    exact if_neg (by decide)
  have keep : t_X5_list K (nI r) = some true → f_L_list F B K N q_I0 q_T0 x = some K := by
    intro h
    rw [head, h, Option.bind_some, if_pos rfl, z_sg4]
    rfl
  by_cases q : m = 8
  · refine ⟨K, m, rr, keep ?_, hK, by omega⟩
    rw [tt, h4, if_pos (show (8 : Int32) ≤ nI m from nI_le (a := 8) (by omega) (by omega))]
  · have tt2 := tt
    rw [h4, if_neg (show ¬ (8 : Int32) ≤ nI m from nI_ge (b := 8) (by omega) (by decide))] at tt2
    rcases z_hasRow hm h4 (fun k hk => ⟨(hK.2.2.2.2.2.1 k hk).2.1, (hK.2.2.2.2.2.1 k hk).1.1⟩) hr.1 with ⟨h, hn⟩ | ⟨h, k, hk, -⟩
    · obtain ⟨K', l1, l2⟩ := z_list hK (by omega) hr hn
      refine ⟨K', m + 1, _, ?_, l2, by omega⟩
      rw [head, tt2, h, Option.bind_some, if_pos rfl, Option.bind_some, if_neg (by decide), l1]
      rfl
    · refine ⟨K, m, rr, keep ?_, hK, by omega⟩
      rw [tt2, h, Option.bind_some]
      exact if_neg (by decide)
theorem z_law79 {L : Nat} (hL : L ≤ 260) (xs : Nat → Int32) {x4 : Int32 × q_Fl × q_Bd} {ft : q_IA} : ∀ d i n (K : q_Bk) m rr, i + d = 5 → d < n → zKL ft m rr K → (1 ≤ m ∨ 0 < d) → ∃ y K' m' rr', fl_L_law_79 L xs x4 n (nI i) K = some (y, K') ∧ zKL ft m' rr' K' ∧ 1 ≤ m' := by
  intro d
  induction d with
  | zero =>
    intro i n K m rr hi hn hK hm
    obtain ⟨n, rfl, -⟩ := z_suc hn
    obtain rfl : i = 5 := by omega
    refine ⟨nI 5, K, m, rr, ?_, hK, by omega⟩
    rw [fl_L_law_79]
    exact if_pos (by decide)
  | succ d ih =>
    intro i n K m rr hi hn hK hm
    obtain ⟨n, rfl, hn2⟩ := z_suc hn
    obtain ⟨c, hc⟩ := z_cell hL xs (show i + 3 < 1000 by omega)
    obtain ⟨K1, m1, rr1, l1, l2, l3⟩ := z_Llist (F := x4.2.1) (B := x4.2.2) (N := q_N0) hK c
    obtain ⟨y, K', m', rr', g1, g2, g3⟩ := ih (i + 1) n K1 m1 rr1 (by omega) (by omega) l2 (Or.inl l3)
    refine ⟨y, K', m', rr', ?_, g2, g3⟩
    rw [fl_L_law_79, if_neg (show ¬ (5 : Int32) ≤ nI i from nI_ge (b := 5) (by omega) (by decide)), show nI i + 3 = nI (i + 3) from nI_add i 3, hc, Option.bind_some, l1, Option.bind_some, nI_1]
    exact g1
theorem z_swap {B : q_Bd} {w : Nat} (hB : B.2.2.1 = nI w) (hw : w ≤ 8) {c : Nat} (hc : c < w) : ∃ v, f_X5_swap B (nI c) = some (v, f_X0_renewColumn B (nI c)) := by
  unfold f_X5_swap
  rw [z_needColumn hB hw hc]
  exact ⟨_, rfl⟩
theorem z_power (F : q_Fl) {a b : Nat} (ha : a < 12) (hb : b < 11) : f_X5_power F (1 + nI a) (nI b) = some (F.1, (nI (1 + a), nI b, F.2.2.1, F.2.2.2)) := by
  unfold f_X5_power
  rw [show (1 : Int32) + nI a = nI (1 + a) from nI_add 1 a, if_neg (show ¬ nI (1 + a) < 1 from nI_nlt (b := 1) (by omega) (by omega)), if_neg (show ¬ (40 : Int32) < nI (1 + a) from nI_nlt (a := 40) (by omega) (by decide)), if_neg (nI_pos (by omega)), if_pos (show nI b ≤ 10 from nI_le (b := 10) (by omega) (by decide))]
theorem z_face : ∀ a, a < 3 → ¬ (nI a - 1 < (-1 : Int32)) ∧ nI a - 1 ≤ (1 : Int32) := by decide +kernel
def zGoal (w : Nat) (ft : q_IA) (X : Option ((Int32) ⊕ (Int32 × q_Fl × q_Bd × q_Bk × q_Pl))) : Prop := ∃ F' B' K' N' t' fl' wr' m' rr', X = some (.inr (nI 26, F', B', K', N')) ∧ zI w t' fl' wr' F' B' ∧ zKL ft m' rr' K' ∧ zN N'
theorem zGoal.of {w : Nat} {ft : q_IA} {X Y : Option ((Int32) ⊕ (Int32 × q_Fl × q_Bd × q_Bk × q_Pl))} (h : X = Y) (g : zGoal w ft Y) : zGoal w ft X := by
  rw [h]
  exact g
theorem z_law106 {L : Nat} (hL : L ≤ 260) (xs : Nat → Int32) {x3 : Int32} {w : Nat} (hx3 : 4 + x3 = nI w) {z7 : Int32 × q_Bk × q_IA} (hf : zft z7.2.2) : ∀ d k n (F : q_Fl) (B : q_Bd) (K : q_Bk) (N : q_Pl) t fl wr m rr, k + d = 26 → d < n → zI w t fl wr F B → t ≤ k → zKL z7.2.2 m rr K → 1 ≤ m → zN N →
    zGoal w z7.2.2 (fl_L_law_106 L xs x3 z7 n (nI k) F B K N) := by
  intro d
  induction d with
  | zero =>
    intro k n F B K N t fl wr m rr hk hn hI ht hK hm hN
    obtain ⟨n, rfl, -⟩ := z_suc hn
    obtain rfl : k = 26 := by omega
    refine ⟨F, B, K, N, t, fl, wr, m, rr, ?_, hI, hK, hN⟩
    rw [fl_L_law_106]
    exact if_pos (by decide)
  | succ d ih =>
    intro k n F B K N t fl wr m rr hk hn hI ht hK hm hN
    obtain ⟨n, rfl, hn2⟩ := z_suc hn
    have hm8 : m ≤ 8 := hK.2.2.2.2.1
    have hw := hI.1.2.1
    have hw4 := hI.1.1
    have hBw := hI.1.2.2.2.1
    obtain ⟨x, ex⟩ := z_cell hL xs (show k % 16 < 1000 by omega)
    obtain ⟨y, ey⟩ := z_cell hL xs (show (7 * k + 3) % 16 < 1000 by omega)
    have e1 : nI k - nI k / 16 * 16 = nI (k % 16) := pk_rem (d := 16) (by omega) (by decide) (by decide)
    have e2 : (7 * nI k + 3) - (7 * nI k + 3) / 16 * 16 = nI ((7 * k + 3) % 16) := by
      rw [show (7 : Int32) * nI k + 3 = nI (7 * k + 3) by rw [show (7 : Int32) * nI k = nI (7 * k) from pk_mul 7 k]; exact nI_add (7 * k) 3]
      exact pk_rem (d := 16) (by omega) (by decide) (by decide)
    have e4 : f_X5_sign F B K q_I0 q_T0 4 = some (nI m) := by rw [z_sg4, hK.2.2.2.1]
    obtain ⟨l, hl, el⟩ := z_below (y + 5 * nI k) (show 0 < m by omega) (show m < 2 ^ 31 by omega)
    obtain ⟨c, hc, ec⟩ := z_below (x + 31 * nI k) (n := 9) (by decide) (by decide)
    replace ec : f_L_below (x + 31 * nI k) 9 = some (nI c) := ec
    -- what goes on behind a call
    have next : ∀ (F1 : q_Fl) (B1 : q_Bd) (K1 : q_Bk) (N1 : q_Pl) t1 fl1 wr1 m1 rr1, zI w t1 fl1 wr1 F1 B1 → t1 ≤ k + 1 → zKL z7.2.2 m1 rr1 K1 → 1 ≤ m1 → zN N1 →
        ∃ R, f_L_isWell F1 B1 K1 N1 q_I0 q_T0 (nI w) = some (1, R) ∧ zGoal w z7.2.2 (fl_L_law_106 L xs x3 z7 n (nI (k + 1)) F1 B1 K1 R) := by
      intro F1 B1 K1 N1 t1 fl1 wr1 m1 rr1 i1 i2 i3 i4 i5
      obtain ⟨R, r1, r2⟩ := z_isWell (F := F1) i1.1 (i3.zK hf) i5
      exact ⟨R, r1, ih (k + 1) n F1 B1 K1 R t1 fl1 wr1 m1 rr1 (by omega) (by omega) i1 i2 i3 i4 r2⟩
    rw [fl_L_law_106, if_neg (show ¬ (26 : Int32) ≤ nI k from nI_ge (b := 26) (by omega) (by decide)), e1, ex, Option.bind_some, e2, ey, Option.bind_some, e4, Option.bind_some, el, Option.bind_some, ec, Option.bind_some, hx3]
    by_cases c0 : c = 0
    · subst c0
      obtain ⟨a, ha, ea⟩ := z_below ((x + 31 * nI k) / 9) (n := 12) (by decide) (by decide)
      replace ea : f_L_below ((x + 31 * nI k) / 9) 12 = some (nI a) := ea
      obtain ⟨b, hb, eb⟩ := z_below (y + 5 * nI k) (n := 11) (by decide) (by decide)
      replace eb : f_L_below (y + 5 * nI k) 11 = some (nI b) := eb
      obtain ⟨R, r1, g1⟩ := next (nI (1 + a), nI b, F.2.2.1, F.2.2.2) B K N t fl wr m rr ⟨hI.1, hI.2⟩ (by omega) hK hm hN
      refine zGoal.of (if_pos (by decide)) ?_
      rw [ea, Option.bind_some, eb, Option.bind_some, z_power F ha hb, Option.bind_some]
      rw [show (F.1, (nI (1 + a), nI b, F.2.2.1, F.2.2.2)).2 = (nI (1 + a), nI b, F.2.2.1, F.2.2.2) from rfl, r1, Option.bind_some]
      refine zGoal.of (if_neg (show ¬ ((1 : Int32), R).1 = 0 from (by decide : ¬ (1 : Int32) = 0))) ?_
      rw [nI_1]
      exact g1
    · refine zGoal.of (if_neg (show ¬ nI c = 0 from by rw [show (0 : Int32) = nI 0 from rfl, nI_eq (by omega) (by omega)]; exact c0)) ?_
      by_cases c1 : c = 1
      · subst c1
        obtain ⟨a, ha, ea⟩ := z_below (y + 5 * nI k) (show 0 < w by omega) (show w < 2 ^ 31 by omega)
        obtain ⟨b, hb, eb⟩ := z_below ((y + 5 * nI k) / 7) (n := 5) (by decide) (by decide)
        replace eb : f_L_below ((y + 5 * nI k) / 7) 5 = some (nI b) := eb
        obtain ⟨f, hff, ef⟩ := z_below ((x + 31 * nI k) / 9) (n := 3) (by decide) (by decide)
        replace ef : f_L_below ((x + 31 * nI k) / 9) 3 = some (nI f) := ef
        obtain ⟨f1, f2⟩ := z_face f hff
        obtain ⟨R, r1, g1⟩ := next F (f_X0_fix B (nI a) (nI b) (nI f - 1)) K N t fl wr m rr ⟨zB_fix hI.1 ha hb _, hI.2⟩ (by omega) hK hm hN
        refine zGoal.of (if_pos (by decide)) ?_
        rw [ea, Option.bind_some, eb, Option.bind_some, ef, Option.bind_some, z_stick hBw hw ha hb f1 f2, Option.bind_some]
        rw [show (f_X0_faceOf B (nI a) (nI b), f_X0_fix B (nI a) (nI b) (nI f - 1)).2 = f_X0_fix B (nI a) (nI b) (nI f - 1) from rfl, r1, Option.bind_some]
        refine zGoal.of (if_neg (show ¬ ((1 : Int32), R).1 = 0 from (by decide : ¬ (1 : Int32) = 0))) ?_
        rw [nI_1]
        exact g1
      · refine zGoal.of (if_neg (show ¬ nI c = 1 from by rw [show (1 : Int32) = nI 1 from rfl, nI_eq (by omega) (by omega)]; exact c1)) ?_
        by_cases c2 : c = 2
        · subst c2
          obtain ⟨a, ha, ea⟩ := z_below (y + 5 * nI k) (show 0 < w by omega) (show w < 2 ^ 31 by omega)
          obtain ⟨v, ev⟩ := z_swap hBw hw ha
          obtain ⟨R, r1, g1⟩ := next F (f_X0_renewColumn B (nI a)) K N t fl _ m rr ⟨zB_renew hI.1 ha, hI.2⟩ (by omega) hK hm hN
          refine zGoal.of (if_pos (by decide)) ?_
          rw [ea, Option.bind_some, ev, Option.bind_some]
          rw [show (v, f_X0_renewColumn B (nI a)).2 = f_X0_renewColumn B (nI a) from rfl, r1, Option.bind_some]
          refine zGoal.of (if_neg (show ¬ ((1 : Int32), R).1 = 0 from (by decide : ¬ (1 : Int32) = 0))) ?_
          rw [nI_1]
          exact g1
        · refine zGoal.of (if_neg (show ¬ nI c = 2 from by rw [show (2 : Int32) = nI 2 from rfl, nI_eq (by omega) (by omega)]; exact c2)) ?_
          by_cases c3 : c = 3
          · subst c3
            by_cases q8 : 8 ≤ m
            · obtain ⟨R, r1, g1⟩ := next F B K N t fl wr m rr hI (by omega) hK hm hN
              refine zGoal.of (if_pos (by decide)) (zGoal.of (if_pos (show (8 : Int32) ≤ nI m from nI_le (a := 8) q8 (by omega))) ?_)
              rw [r1, Option.bind_some]
              refine zGoal.of (if_neg (show ¬ ((1 : Int32), R).1 = 0 from (by decide : ¬ (1 : Int32) = 0))) ?_
              rw [nI_1]
              exact g1
            · obtain ⟨K1, m1, rr1, l1, l2, l3⟩ := z_Llist (F := F) (B := B) (N := N) hK ((x + 31 * nI k) / 9)
              obtain ⟨R, r1, g1⟩ := next F B K1 N t fl wr m1 rr1 hI (by omega) l2 l3 hN
              refine zGoal.of (if_pos (by decide)) (zGoal.of (if_neg (show ¬ (8 : Int32) ≤ nI m from nI_ge (b := 8) (by omega) (by decide))) ?_)
              rw [l1, Option.bind_some, r1, Option.bind_some]
              refine zGoal.of (if_neg (show ¬ ((1 : Int32), R).1 = 0 from (by decide : ¬ (1 : Int32) = 0))) ?_
              rw [nI_1]
              exact g1
          · obtain ⟨F1, B1, R0, t1, fl1, wr1, s1, s2, s3, s4⟩ := z_isShown hI (by omega) hf hK hl hN
            obtain ⟨R, r1, g1⟩ := next F1 B1 K R0 t1 fl1 wr1 m rr s4 (by omega) hK hm s2
            refine zGoal.of (if_neg (show ¬ nI c = 3 from by rw [show (3 : Int32) = nI 3 from rfl, nI_eq (by omega) (by omega)]; exact c3)) ?_
            rw [show (3 : Int32).toNatClampNeg = 3 from rfl, s1, Option.bind_some]
            refine zGoal.of (if_neg (show ¬ ((1 : Int32), F1, B1, R0).1 = 0 from (by decide : ¬ (1 : Int32) = 0))) ?_
            rw [show ((1 : Int32), F1, B1, R0).2.1 = F1 from rfl, show ((1 : Int32), F1, B1, R0).2.2.1 = B1 from rfl, show ((1 : Int32), F1, B1, R0).2.2.2 = R0 from rfl, r1, Option.bind_some]
            refine zGoal.of (if_neg (show ¬ ((1 : Int32), R).1 = 0 from (by decide : ¬ (1 : Int32) = 0))) ?_
            rw [nI_1]
            exact g1
theorem z_law {L : Nat} (hL : L ≤ 260) (xs : Nat → Int32) : f_L_law L xs = some 1 := by
  obtain ⟨x2, e2⟩ := z_cell hL xs (show 0 < 1000 by decide)
  replace e2 : f_L_cell L xs 0 = some x2 := e2
  obtain ⟨a, ha, e3⟩ := z_below x2 (n := 3) (by decide) (by decide)
  replace e3 : f_L_below x2 3 = some (nI a) := e3
  have hw : (4 : Int32) + nI a = nI (4 + a) := nI_add 4 a
  obtain ⟨ft, hf, e7⟩ := z_law33 hL xs
  obtain ⟨y8, K8, m8, rr8, e8, k8, hm8⟩ := z_law79 hL xs (x4 := (8, q_F0, zB0 (4 + a))) (ft := ft) 5 0 6 _ 0 (fun _ => 0) (by omega) (by omega) (z_K3 ft (fun _ => 0)) (Or.inr (by decide))
  replace e8 : fl_L_law_79 L xs (8, q_F0, zB0 (4 + a)) 6 0 (zLC, zLF ft, fun _ => 0, fun _ => 0, fun _ => 0, 3, 0) = some (y8, K8) := e8
  have hI : zI (4 + a) 0 (fun _ => 0) (fun _ => 0) q_F0 (zB0 (4 + a)) := ⟨zB_0 (by omega) (by omega), 0, rfl, Nat.zero_le _⟩
  obtain ⟨F, B, K, N, t, fl, wr, m, rr, e9, i9, k9, n9⟩ := z_law106 hL xs (x3 := nI a) hw (z7 := (3, (zLC, zLF ft, fun _ => 0, fun _ => 0, fun _ => 0, 3, 0), ft)) hf 26 0 27 q_F0 (zB0 (4 + a)) K8 q_N0 0 (fun _ => 0) (fun _ => 0) m8 rr8 (by omega) (by omega) hI (by omega) k8 hm8 ⟨fun _ _ => rfl, fun _ _ => rfl⟩
  replace e9 : fl_L_law_106 L xs (nI a) (3, (zLC, zLF ft, fun _ => 0, fun _ => 0, fun _ => 0, 3, 0), ft) 27 0 q_F0 (zB0 (4 + a)) K8 q_N0 = some (.inr (nI 26, F, B, K, N)) := e9
  obtain ⟨hB, se, hse, hse2⟩ := i9
  have hsm := zSF_le hB
  have kq := k9.zK hf
  obtain ⟨S, hS⟩ := z_digest (F := F) hB kq
  obtain ⟨R1, d1, n1⟩ := hS N n9
  obtain ⟨R2, d2, n2⟩ := hS R1 n1
  obtain ⟨R3, d3, n3⟩ := z_isSound (F := F) hB kq n2
  have haf := z_allFlips hB.2.1 hB.2.2.2.1 (fun j hj => (hB.2.2.2.2.1 j hj).1)
  unfold f_L_law
  rw [e2, Option.bind_some, e3, Option.bind_some, hw, z_width (by omega) (by omega), Option.bind_some]
  refine (if_pos (by decide)).trans ?_
  rw [e7, Option.bind_some]
  rw [show ((3 : Int32), ((zLC, zLF ft, fun _ => 0, fun _ => 0, fun _ => 0, 3, 0) : q_Bk), ft).2.1 = (zLC, zLF ft, fun _ => 0, fun _ => 0, fun _ => 0, 3, 0) from rfl, e8, Option.bind_some]
  rw [show (y8, K8).2 = K8 from rfl, show ((8 : Int32), q_F0, zB0 (4 + a)).2.1 = q_F0 from rfl, show ((8 : Int32), q_F0, zB0 (4 + a)).2.2 = zB0 (4 + a) from rfl, e9, Option.bind_some]
  show ((f_X5_digest F B K N q_I0 q_T0).bind fun x_11 => ((f_X5_sign F B K q_I0 q_T0 7).bind fun x_12 => ((f_X5_sign F B K q_I0 q_T0 8).bind fun x_13 => (if x_12 < x_13 then some 0 else ((f_X5_digest F B K x_11.2 q_I0 q_T0).bind fun x_15 => (if (lg_cmp x_15.1 x_11.1) = 0 then ((f_X5_isSound F B K x_15.2 q_T0).bind fun x_17 => (if x_17.1 = 0 then some 0 else some 1)) else some 0)))))) = some 1
  rw [d1, Option.bind_some, z_sg7 q_I0 q_T0 haf, Option.bind_some, z_sg8, Option.bind_some, hse, if_neg (nI_nlt hse2 (by omega))]
  rw [show (S, R1).2 = R1 from rfl, d2, Option.bind_some]
  refine (if_pos ((lg_cmp_eq _ _).mpr rfl)).trans ?_
  rw [show (S, R2).2 = R2 from rfl, d3, Option.bind_some]
  exact if_neg (show ¬ ((1 : Int32), R3).1 = 0 from (by decide : ¬ (1 : Int32) = 0))
