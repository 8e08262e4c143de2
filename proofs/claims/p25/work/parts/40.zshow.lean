/-! each picture on the way -/
theorem z_sh244 {K : q_Bk} {ft : q_IA} {w m l : Nat} {rr : Nat → Nat} (h4 : 4 ≤ w) (hw : w ≤ 8) (hf : zft ft) (hK : zKL ft m rr K) (hl : l < m) {s g : Int64} (hs : ∀ i, 5 * w ≤ i → zb s i = false) (hg : ∀ i, 5 * w ≤ i → zb g i = false)
    {q : Nat} {pc dq : Nat → Nat} {sl : q_IA} (hq : zsteps (zch s g) sl q pc dq) (hfo : ∀ k, k < m → k ≠ l → ¬ zsay w (zln ft rr) K s k → ∀ o, zln ft rr k + o ≤ w → ∀ dn, zmix s g dn (f_X1_placed K (nI k) (nI o)) → sl dn = -1)
    {x1 : Int32 × q_Pl} {z11 : Int32 × q_Pl × q_IA} {z12 : Int32 × q_IA} {z13 : Int32 × q_Pl × q_IA} {x14 : Int32 × q_Fl × q_Bd × q_Pl} (hx1 : x1.1 = nI q) (h11 : ∀ j, j < q → z11.2.2 j = nI (pc j)) (h12 : ∀ j, j < w → z12.2 j = f_X5_setIn s (nI j)) (h13 : ∀ j, j < m → z13.2.2 j = 0 → j ≠ l ∧ ¬ zsay w (zln ft rr) K s j) (hB : x14.2.2.1.2.2.1 = nI w) (hg2 : x14.2.2.1.2.2.2.1 = g) (N : q_Pl) :
    ∀ d k n, k + d = q → d < n → ∃ x y, fl_L_isShown_244 (nI w) K q_I0 q_T0 3 ft x1 (nI m) z11 z12 z13 x14 n (nI (dq k)) (nI k) N = some (.inr (x, y, N)) := by
  have hm : m ≤ 8 := hK.2.2.2.2.1
  have hch := zch_lt s g
  have h8 := zpcn_le (zch s g)
  have hq8 := hq.1
  intro d
  induction d with
  | zero =>
    intro k n hk hn
    obtain ⟨n, rfl, -⟩ := z_suc hn
    obtain rfl : k = q := by omega
    refine ⟨nI (dq k), nI k, ?_⟩
    rw [fl_L_isShown_244, hx1]
    exact if_pos (nI_le (Nat.le_refl _) (by omega))
  | succ d ih =>
    intro k n hk hn
    obtain ⟨n, rfl, hn2⟩ := z_suc hn
    obtain ⟨x, y, go⟩ := ih (k + 1) n (by omega) (by omega)
    refine ⟨x, y, ?_⟩
    have hdq := hq.2.2.2.2.1
    obtain ⟨p1, p2, p3⟩ := hq.2.2.2.2.2.1 k (by omega)
    have l1 : dq (k + 1) < 256 := Nat.lt_of_le_of_lt (zsub_le (hdq (k + 1) (by omega))) hch
    have l2 : pc k < 256 := Nat.lt_of_le_of_lt (zsub_le (zop_sub hch p2).1) hch
    have ek : z11.2.2 (nI k).toNatClampNeg = nI (pc k) := by rw [nI_clamp (by omega), h11 k (by omega)]
    have hor : nI (dq k) ||| z11.2.2 (nI k).toNatClampNeg = nI (dq (k + 1)) := by rw [ek, fa_or, p3]
    have hand : nI (pc k) &&& nI (dq k) = 0 := by
      rw [fa_and]
      have : pc k &&& dq k = 0 := by
        apply Nat.eq_of_testBit_eq
        intro i
        rw [Nat.testBit_and, Nat.zero_testBit]
        by_cases e : (pc k).testBit i = true
        · rw [(zop_sub hch p2).2 i e, Bool.and_false]
        · simp [e]
      rw [this]
      rfl
    have hlast : nI k = x1.1 - 1 → k + 1 = q := by
      intro e
      rw [hx1, show nI q - 1 = nI (q - 1) from pk_sub (b := 1) (by omega), nI_eq (by omega) (by omega)] at e
      omega
    obtain ⟨y5, e5⟩ := z_sh285 hw (x1 := x1) (z11 := z11) (z12 := z12) (x14 := x14) (i11 := nI (dq k)) (i12 := nI k) (N := N) l1 hor hB (fun e j hj hb => by
      have e2 := hlast e
      rw [e2, hq.2.2.2.1] at hb
      rw [hg2, h12 j hj]
      exact (zs_eq _ _ (by omega)).mpr (fun h hh => ((zch_bit s g (show j < 8 by omega)).mp hb h hh).symm)) w 0 1000 (by omega) (by omega)
    replace e5 : fl_L_isShown_285 (nI w) x1 z11 z12 x14 (nI (dq k)) (nI k) N 1000 0 = some (.inr y5) := e5
    rw [fl_L_isShown_244, hx1, if_neg (nI_ge (show k < q by omega) (by omega)), z_max (by omega), if_pos (by rw [nI_clamp (by omega)]; exact zq_ix (show k < q by omega) (by omega)), ek, if_neg (nI_nle (by omega) (by omega)), if_pos hand, e5, Option.bind_some]
    rw [ek] at hor
    show (if nI k = (nI q - 1) then fl_L_isShown_244 (nI w) K q_I0 q_T0 3 ft x1 (nI m) z11 z12 z13 x14 n (nI (dq k) ||| nI (pc k)) (nI k + 1) N else (if q_ix (nI w) 65 = true then ((fl_L_isShown_353 (nI w) z11 z12 x14 (nI (dq k)) (nI k) 1000 0 (fun _ => 0)).bind fun z_244010 => ((f_L_isRight x14.2.1 x14.2.2.1 K N q_I0 q_T0 (nI w).toNatClampNeg z_244010.2 (nI m).toNatClampNeg z13.2.2 3 ft).bind fun x_244011 => (if x_244011.1 = 0 then some (.inl (0, x14.2.1, x14.2.2.1, x_244011.2)) else fl_L_isShown_244 (nI w) K q_I0 q_T0 3 ft x1 (nI m) z11 z12 z13 x14 n (nI (dq k) ||| nI (pc k)) (nI k + 1) x_244011.2))) else none)) = _
    rw [hor, nI_1]
    by_cases qe : nI k = (nI q - 1)
    · rw [if_pos qe]
      exact go
    · rw [if_neg qe, if_pos (zq_ix (show w < 65 by omega) (by decide)), nI_clamp (show w < 2 ^ 31 by omega), nI_clamp (show m < 2 ^ 31 by omega)]
      have hkq : k + 1 < q := by
        rcases Nat.lt_or_ge (k + 1) q with h | h
        · exact h
        · exfalso
          apply qe
          rw [show nI q - 1 = nI (q - 1) from pk_sub (b := 1) (by omega)]
          congr 1
          omega
      obtain ⟨A', a1, a2⟩ := z_sh353 hw (z11 := z11) (z12 := z12) (x14 := x14) (i11 := nI (dq k)) (i12 := nI k) l1 (by rw [ek]; exact hor) hB w 0 1000 (fun _ => 0) (by omega) (by omega)
      replace a1 : fl_L_isShown_353 (nI w) z11 z12 x14 (nI (dq k)) (nI k) 1000 0 (fun _ => 0) = some (nI w, A') := a1
      obtain ⟨P, -, hP⟩ := z_behind (fun _ => 0, fun _ => 0, fun _ => 0, s, g, 0, 0, 0) (dn := dq (k + 1))
      have hP2 : ∀ i, i < 64 → zb P i = if (dq (k + 1)).testBit (i / 5) = true then zb g i else zb s i := by
        intro i hi
        rw [hP i hi]
        by_cases q5 : (dq (k + 1)).testBit (i / 5) = true
        · rw [if_pos q5, if_pos ⟨z_lo8 l1 q5, q5⟩]
        · rw [if_neg q5, if_neg (fun h => q5 h.2)]
      have hmix : zmix s g (dq (k + 1)) P := ⟨l1, hdq (k + 1) (by omega), hP2⟩
      have hright := z_isRight (F := x14.2.1) (B := x14.2.2.1) h4 hw hf hK (P := P) (fun i hi => by
        by_cases q6 : i < 64
        · rw [hP2 i q6, hs i hi, hg i hi]
          split <;> rfl
        · exact zb_big (by omega)) (fp := A') (fz := z13.2.2) (fun c hc => by
        rw [(a2 c).2 (Nat.zero_le _) hc, hg2, h12 c hc, zmix_set hmix (show c < 8 by omega)]) (fun j hj hz => by
        obtain ⟨n1, n2⟩ := h13 j hj hz
        exact z_nowrong hq hfo (Nat.succ_pos k) hkq hP2 j hj n1 n2) N
      rw [a1, Option.bind_some, hright, Option.bind_some]
      exact (if_neg (show ¬ ((1 : Int32), N).1 = 0 from (by decide : ¬ (1 : Int32) = 0))).trans go
def zI (w t : Nat) (fl wr : Nat → Nat) (F : q_Fl) (B : q_Bd) : Prop := zB w t fl wr B ∧ ∃ se, F.2.2.1 = nI se ∧ se ≤ fb_sm (zF fl) w
theorem z_isShown {F : q_Fl} {B : q_Bd} {K : q_Bk} {ft : q_IA} {w t m l : Nat} {fl wr rr : Nat → Nat} (hI : zI w t fl wr F B) (ht : t < 1000) (hf : zft ft) (hK : zKL ft m rr K) (hl : l < m) {N : q_Pl} (hN : zN N) :
    ∃ F' B' R t' fl' wr', f_L_isShown F B K N q_I0 q_T0 3 ft (nI l) (nI w) = some (1, F', B', R) ∧ zN R ∧ t' ≤ t + 1 ∧ zI w t' fl' wr' F' B' := by
  obtain ⟨hB, se, hse, hse2⟩ := hI
  have h4 := hB.1
  have hw := hB.2.1
  have hBw := hB.2.2.2.1
  have hKq := hK.zK hf
  have hm : m ≤ 8 := hK.2.2.2.2.1
  have hK1 : K.2.2.2.2.2.2 = nI m := hK.2.2.2.1
  have haf := z_allFlips hw hBw (fun j hj => (hB.2.2.2.2.1 j hj).1)
  obtain ⟨st, fp, so, goal, ho, c6, c7, cs, csh⟩ := z_ask (F := F) hBw hw hKq hl
  obtain ⟨R1, r6, n6⟩ := c6 N hN
  obtain ⟨R2, r7, n7⟩ := c7 R1 n6
  have hsg4 : f_X5_sign F B K q_I0 q_T0 4 = some (nI m) := by rw [z_sg4, hK1]
  have hQ : ∃ Q, Q ≤ 8 ∧ (if (0 : Int32) < st then st else 0) = nI Q ∧ (st = -1 ∨ st = nI Q) := by
    rcases ho with ⟨rfl, -⟩ | ⟨q, o, pc, dq, sl, rfl, -, -, -, -, hq, -⟩
    · exact ⟨0, by omega, by decide, Or.inl rfl⟩
    · have := zpcn_le (zch B.2.2.2.1 goal)
      have := hq.1
      exact ⟨q, by omega, z_max (by omega), Or.inr rfl⟩
  obtain ⟨Q, hQ8, hQe, hQst⟩ := hQ
  obtain ⟨R3, A11, s57, n57, a57⟩ := z_sh57 (F := F) (B := B) (K := K) (l := l) (so := so) (x1 := (st, R1)) hQ8 hQe cs Q 0 1000 R2 (fun _ => 0) (by omega) (by omega) n7
  replace s57 : fl_L_isShown_57 (nI l) F B K (st, R1) 1000 0 R2 (fun _ => 0) = some (nI Q, R3, A11) := s57
  obtain ⟨A12, s86, a86⟩ := z_sh86 hBw hw w 0 1000 (fun _ => 0) (by omega) (by omega)
  replace s86 : fl_L_isShown_86 (nI w) B 1000 0 (fun _ => 0) = some (nI w, A12) := s86
  obtain ⟨A13, s113, a113⟩ := z_sh113 (F := F) hBw hw hKq hl R3 m 0 1000 (fun _ => 0) (by omega) (by omega)
  replace s113 : fl_L_isShown_113 (nI l) F B K (nI m) 1000 0 R3 (fun _ => 0) = some (nI m, R3, A13) := s113
  obtain ⟨R4, n4, sh1, sh2⟩ := csh R3 n57
  have hix1 : q_ix (if (0 : Int32) < st then st else 0) 65 = true := by rw [hQe]; exact zq_ix (by omega) (by decide)
  have hix2 : q_ix (nI w) 65 = true := zq_ix (by omega) (by decide)
  have hix3 : q_ix (nI m) 65 = true := zq_ix (by omega) (by decide)
  have head : ∀ F' B', f_X5_show F B K R3 (nI l) = some (st, F', B', R4) → f_L_isShown F B K N q_I0 q_T0 3 ft (nI l) (nI w) = (if (0 : Int32) ≤ st then ((f_X5_sign F' B' K q_I0 q_T0 7).bind fun x_17 => (if x_17 = (nI (fb_sm (zF fl) w) + fp) then ((f_X5_ofLine F' B' K R4 (nI l) 3).bind fun x_19 => (if x_19.1 = 0 then ((f_X5_ofLine F' B' K x_19.2 (nI l) 5).bind fun x_25 => (if x_25.1 = 1 then ((f_X5_ofLine F' B' K x_25.2 (nI l) 6).bind fun x_27 => (if x_27.1 = 0 then ((fl_L_isShown_244 (nI w) K q_I0 q_T0 3 ft (st, R1) (nI m) (nI Q, R3, A11) (nI w, A12) (nI m, R3, A13) (st, F', B', R4) 10 0 0 x_27.2).bind fun z_29 => Sum.elim (fun r_ => some r_) (fun y_30 => some (1, F', B', y_30.2.2)) z_29) else some (0, F', B', x_27.2))) else some (0, F', B', x_25.2))) else ((f_X5_ofLine F' B' K x_19.2 (nI l) 6).bind fun x_21 => (if x_21.1 = 0 then ((fl_L_isShown_244 (nI w) K q_I0 q_T0 3 ft (st, R1) (nI m) (nI Q, R3, A11) (nI w, A12) (nI m, R3, A13) (st, F', B', R4) 10 0 0 x_21.2).bind fun z_23 => Sum.elim (fun r_ => some r_) (fun y_24 => some (1, F', B', y_24.2.2)) z_23) else some (0, F', B', x_21.2))))) else some (0, F', B', R4))) else ((f_X5_sign F' B' K q_I0 q_T0 7).bind fun x_31 => (if x_31 = nI (fb_sm (zF fl) w) then (if fp = (-1) then some (1, F', B', R4) else some (0, F', B', R4)) else some (0, F', B', R4)))) := by
    intro F' B' hsh
    unfold f_L_isShown
    rw [r6, Option.bind_some, r7, Option.bind_some, z_sg7 q_I0 q_T0 haf, Option.bind_some, hsg4, Option.bind_some]
    refine (if_pos hix1).trans ((if_pos hix2).trans ((if_pos hix3).trans ?_))
    rw [s57, Option.bind_some, s86, Option.bind_some]
    rw [show (nI Q, R3, A11).2.1 = R3 from rfl, s113, Option.bind_some]
    rw [show (nI m, R3, A13).2.1 = R3 from rfl, hsh, Option.bind_some]
    exact if_pos rfl
  by_cases hst : st = -1
  · have hfp : fp = -1 := by
      rcases ho with ⟨-, h, -⟩ | ⟨q, o, pc, dq, sl, h, -, -, -, -, hq, -⟩
      · exact h
      · exfalso
        have := zpcn_le (zch B.2.2.2.1 goal)
        have := hq.1
        rw [hst] at h
        exact z_m1_ne (by omega) h.symm
    refine ⟨F, B, R4, t, fl, wr, ?_, n4, by omega, hB, se, hse, hse2⟩
    have hsh := sh1 hst
    rw [head F B (by rw [hst]; exact hsh), hst, if_neg (by decide), z_sg7 q_I0 q_T0 haf, Option.bind_some, if_pos rfl, if_pos hfp]
  · rcases ho with ⟨h, -⟩ | ⟨q, o, pc, dq, sl, rfl, rfl, hoo, hbo, hgo, hq, hso, hfo⟩
    · exact absurd h hst
    have h8 := zpcn_le (zch B.2.2.2.1 goal)
    have hq8 := hq.1
    have hqQ : Q = q := by
      rcases hQst with h | h
      · exact absurd h hst
      · rw [nI_eq (by omega) (by omega)] at h
        exact h.symm
    subst hqQ
    obtain ⟨g1, g2⟩ := z_goal_b hB hKq hl hoo
    rw [← hgo] at g1 g2
    obtain ⟨B', t1, hB', t3, t4, t5⟩ := zB_turn hB ht g1 g2
    have hsh := sh2 hst B' t1
    have hBw' := hB'.2.2.2.1
    have hpx : ∀ i, 5 * w ≤ i → zb (B.2.2.2.1 ^^^ goal) i = false := by
      intro i hi
      rw [zb_xor, (hB.2.2.2.2.2.2.2.1 i hi).1, g2 i hi]
      rfl
    have hsum : fb_sm (zF (zflT fl (B.2.2.2.1 ^^^ goal))) w = fb_sm (zF fl) w + fb_ct (zb (B.2.2.2.1 ^^^ goal)) 64 := by
      rw [zSF_T, z_c5_64 hw hpx]
    have haf' := z_allFlips hw hBw' (fun j hj => (hB'.2.2.2.2.1 j hj).1)
    rw [hsum] at haf'
    have hbo' : f_X5_bestOffset B' K (nI l) = some (nI o) := by rw [z_best_cong K (hBw'.trans hBw.symm) t4 t5, hbo]
    have hgo' : f_X5_goalAt B' K (nI l) (nI o) = goal := by
      rw [hgo]
      exact z_ws_cong t4 t5 _
    generalize hF' : ((F.1, F.2.1, F.2.2.1 + nI Q, nI l) : q_Fl) = F' at hsh
    have hse' : F'.2.2.1 = nI (se + Q) := by
      rw [← hF', ← nI_add, ← hse]
    obtain ⟨st', fp', so', goal', ho', c6', -⟩ := z_ask (F := F') hBw' hw hKq hl
    have hst' : st' = 0 := by
      rcases ho' with ⟨-, -, -, h⟩ | ⟨q', o', pc', dq', sl', h1, -, h2, h3, h5, h6, -⟩
      · exact absurd (t3.trans hgo'.symm) (h o hoo hbo')
      · rw [hbo'] at h3
        have e := (nI_eq (by omega) (by omega)).mp (Option.some.inj h3)
        subst e
        rw [hgo'] at h5
        rw [h5, t3] at h6
        rw [h1, h6.2.1 (zch_same goal)]
        rfl
    obtain ⟨hh, hh3, hh0⟩ := z_of3 (F := F') hBw' hw hKq hl
    obtain ⟨R6, r6', n6'⟩ := c6' R4 n4
    rw [hst'] at r6'
    have hct := zch_ct B.2.2.2.1 goal
    refine ⟨F', B', R6, t + 1, _, _, ?_, n6', Nat.le_refl _, hB', se + Q, hse', by rw [hsum]; omega⟩
    have l244 := z_sh244 h4 hw hf hK hl (fun i hi => (hB.2.2.2.2.2.2.2.1 i hi).1) g2 hq hfo (x1 := (nI Q, R1)) (z11 := (nI Q, R3, A11)) (z12 := (nI w, A12)) (z13 := (nI m, R3, A13)) (x14 := (nI Q, F', B', R4)) rfl (fun j hj => by
      show A11 j = _
      rw [(a57 j).2 (Nat.zero_le _) hj, hso j, if_pos hj]) (fun j hj => (a86 j).2 (Nat.zero_le _) hj) (fun j hj hz => (a113 j).2 (Nat.zero_le _) hj hz) hBw' t3 R6 Q 0 10 (by omega) (by omega)
    obtain ⟨x, y, l244⟩ := l244
    rw [hq.2.2.1] at l244
    replace l244 : fl_L_isShown_244 (nI w) K q_I0 q_T0 3 ft (nI Q, R1) (nI m) (nI Q, R3, A11) (nI w, A12) (nI m, R3, A13) (nI Q, F', B', R4) 10 0 0 R6 = some (.inr (x, y, R6)) := l244
    rw [head F' B' hsh, if_pos (nI_pos' (by omega)), z_sg7 q_I0 q_T0 haf', Option.bind_some, if_pos (nI_add _ _).symm, hh3 R4, Option.bind_some]
    by_cases q0 : hh = 0
    · refine (if_pos q0).trans ?_
      obtain ⟨o2, e1, e2, e3⟩ := hh0 q0
      rw [hbo'] at e1
      have e := (nI_eq (by omega) (by omega)).mp (Option.some.inj e1)
      subst e
      have hsay : zsay w (zln ft rr) K B'.2.2.2.1 l := ⟨o, hoo, by rw [t3, ← hgo']; exact z_harm0 K hB' e3⟩
      rcases z_of5 (F := F') hBw' hw hKq hl with ⟨-, e5⟩ | ⟨h, -⟩
      · rw [show (hh, R4).2 = R4 from rfl, e5, Option.bind_some]
        refine (if_pos rfl).trans ?_
        rw [show ((1 : Int32), R4).2 = R4 from rfl, r6', Option.bind_some]
        refine (if_pos rfl).trans ?_
        rw [show ((0 : Int32), R6).2 = R6 from rfl, l244]
        rfl
      · exact absurd hsay h
    · refine (if_neg q0).trans ?_
      rw [show (hh, R4).2 = R4 from rfl, r6', Option.bind_some]
      refine (if_pos rfl).trans ?_
      rw [show ((0 : Int32), R6).2 = R6 from rfl, l244]
      rfl
