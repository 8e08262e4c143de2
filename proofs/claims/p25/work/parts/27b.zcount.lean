theorem zpc_nat {n : Nat} (hn : n < 2 ^ 64) : f_J13_bitCount_95d88 (lN n) = nI (fb_ct (fun i => n.testBit i) 64) := by
  have hm : n < 256 ^ 8 := hn
  obtain ⟨-, h8⟩ := zW_all 8 n hm
  have m1 : zM 85 8 = 6148914691236517205 := by decide +kernel
  have m2 : zM 51 8 = 3689348814741910323 := by decide +kernel
  have m3 : zM 15 8 = 1085102592571150095 := by decide +kernel
  rw [m1, m2, m3] at h8
  have hq : fb_ct (fun i => n.testBit i) 64 = zQ 8 n := zQ_ct 8 n
  rw [zQ8] at hq
  rw [zR8] at h8
  have y1 : n / 2 &&& 6148914691236517205 ≤ n / 2 := Nat.and_le_left
  generalize hy : zY 6148914691236517205 n = y at h8
  have hyl : y < 2 ^ 64 := by rw [← hy]; unfold zY; omega
  have z1 : y &&& 3689348814741910323 ≤ 3689348814741910323 := Nat.and_le_right
  have z2 : y / 4 &&& 3689348814741910323 ≤ 3689348814741910323 := Nat.and_le_right
  generalize hz : zZ 3689348814741910323 y = z at h8
  have hzl : z < 2 ^ 63 := by rw [← hz]; unfold zZ; omega
  generalize hw : zW 1085102592571150095 z = w at h8
  have w1 := zfin (zp8_le (n % 256)) (zp8_le (n / 256 % 256)) (zp8_le (n / 256 / 256 % 256)) (zp8_le (n / 256 / 256 / 256 % 256)) (zp8_le (n / 256 / 256 / 256 / 256 % 256)) (zp8_le (n / 256 / 256 / 256 / 256 / 256 % 256)) (zp8_le (n / 256 / 256 / 256 / 256 / 256 / 256 % 256)) (zp8_le (n / 256 / 256 / 256 / 256 / 256 / 256 / 256 % 256)) (v := w) h8
  have w3 := zfin2 (zp8_le (n % 256)) (zp8_le (n / 256 % 256)) (zp8_le (n / 256 / 256 % 256)) (zp8_le (n / 256 / 256 / 256 % 256)) (zp8_le (n / 256 / 256 / 256 / 256 % 256)) (zp8_le (n / 256 / 256 / 256 / 256 / 256 % 256)) (zp8_le (n / 256 / 256 / 256 / 256 / 256 / 256 % 256)) (zp8_le (n / 256 / 256 / 256 / 256 / 256 / 256 / 256 % 256)) (v := w) h8
  unfold f_J13_bitCount_95d88
  have s1 : ((lN n).toUInt64 >>> ((1 : Int32).toInt64.toUInt64 &&& Int64.toUInt64 63)).toInt64 = lN (n / 2) := wb_shr (k := 1) hn (by decide)
  have a1 : lN (n / 2) &&& (6148914691236517205 : Int64) = lN (n / 2 &&& 6148914691236517205) := wb_and (by omega) (by decide)
  have b1 : lN n - lN (n / 2 &&& 6148914691236517205) = lN y := by rw [lN_sub (by omega), ← hy]; rfl
  have s2 : ((lN y).toUInt64 >>> ((2 : Int32).toInt64.toUInt64 &&& Int64.toUInt64 63)).toInt64 = lN (y / 4) := wb_shr (k := 2) hyl (by decide)
  have a2 : lN (y / 4) &&& (3689348814741910323 : Int64) = lN (y / 4 &&& 3689348814741910323) := wb_and (by omega) (by decide)
  have a3 : lN y &&& (3689348814741910323 : Int64) = lN (y &&& 3689348814741910323) := wb_and hyl (by decide)
  have b2 : lN (y &&& 3689348814741910323) + lN (y / 4 &&& 3689348814741910323) = lN z := by rw [lN_add, ← hz]; rfl
  have s3 : ((lN z).toUInt64 >>> ((4 : Int32).toInt64.toUInt64 &&& Int64.toUInt64 63)).toInt64 = lN (z / 16) := wb_shr (k := 4) (by omega) (by decide)
  have a4 : lN (z + z / 16) &&& (1085102592571150095 : Int64) = lN w := by rw [← hw]; exact wb_and (by omega) (by decide)
  have s4 : ((lN w).toUInt64 >>> ((8 : Int32).toInt64.toUInt64 &&& Int64.toUInt64 63)).toInt64 = lN (w / 256) := wb_shr (k := 8) (by omega) (by decide)
  have s5 : ((lN (w + w / 256)).toUInt64 >>> ((16 : Int32).toInt64.toUInt64 &&& Int64.toUInt64 63)).toInt64 = lN ((w + w / 256) / 65536) := wb_shr (k := 16) (by omega) (by decide)
  have s6 : ((lN (w + w / 256 + (w + w / 256) / 65536)).toUInt64 >>> ((32 : Int32).toInt64.toUInt64 &&& Int64.toUInt64 63)).toInt64 = lN ((w + w / 256 + (w + w / 256) / 65536) / 4294967296) := wb_shr (k := 32) (by omega) (by decide)
  refine (zlet (y := lN y) (by rw [s1, a1, b1])).trans ?_
  try dsimp only
  refine (zlet (y := lN z) (by rw [s2, a2, a3, b2])).trans ?_
  try dsimp only
  refine (zlet (y := lN w) (by rw [s3, lN_add, a4])).trans ?_
  try dsimp only
  refine (zlet (y := lN (w + w / 256)) (by rw [s4, lN_add])).trans ?_
  try dsimp only
  refine (zlet (y := lN (w + w / 256 + (w + w / 256) / 65536)) (by rw [s5, lN_add])).trans ?_
  try dsimp only
  refine (zlet (y := lN (w + w / 256 + (w + w / 256) / 65536 + (w + w / 256 + (w + w / 256) / 65536) / 4294967296)) (by rw [s6, lN_add])).trans ?_
  try dsimp only
  rw [lN_i]
  have f7 := fa_mask (w + w / 256 + (w + w / 256) / 65536 + (w + w / 256 + (w + w / 256) / 65536) / 4294967296) 7
  refine Eq.trans f7 ?_
  rw [hq, show (2 : Nat) ^ 7 = 128 from rfl, w1]
theorem zpc (x : Int64) : f_J13_bitCount_95d88 x = nI (fb_ct (zb x) 64) := by
  obtain ⟨n, hn, rfl⟩ := wb_of x
  rw [zpc_nat hn]
  congr 1
  apply fb_ct_cong
  intro i hi
  unfold zb
  rw [wb_tb, BitVec.getLsbD_ofNat]
  simp [hi]
theorem zct_le (x : Int64) : fb_ct (zb x) 64 ≤ 64 := fb_ct_le _ _
theorem zct_0 (x y : Int64) : fb_ct (zb (x ^^^ y)) 64 = 0 ↔ x = y := by
  rw [fb_ct_zero]
  constructor
  · intro h
    apply zb_ext
    intro i hi
    have h1 := h i hi
    rw [zb_xor] at h1
    generalize zb x i = a at h1 ⊢
    generalize zb y i = b at h1 ⊢
    revert h1
    cases a <;> cases b <;> simp
  · intro h i hi
    subst h
    rw [zb_xor, Bool.xor_self]
theorem zj6 : ∀ s, s < 32 → f_J6_bitCount_0f7a4 (nI s) = nI (fb_ct (fun h => s.testBit h) 5) := by decide +kernel
theorem zpc5 (x : Int64) {c : Nat} (hc : c ≤ 12) : f_J6_bitCount_0f7a4 (f_X5_setIn x (nI c)) = nI (fb_ct (fun h => zb x (5 * c + h)) 5) := by
  obtain ⟨s, hs, e⟩ := zs_lt x (nI c)
  rw [e, zj6 s hs]
  congr 1
  apply fb_ct_cong
  intro h hh
  rw [← bt_nI s (show h < 32 by omega), ← e, zs_bit x hc (show h < 32 by omega), decide_eq_true hh, Bool.true_and]
