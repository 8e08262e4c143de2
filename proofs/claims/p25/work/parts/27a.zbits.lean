/-! pictures by their bits, counts of bits -/
def zb (x : Int64) (i : Nat) : Bool := x.toBitVec.getLsbD i
theorem zb_ext {x y : Int64} (h : ∀ i, i < 64 → zb x i = zb y i) : x = y := Int64.toBitVec_inj.mp (BitVec.eq_of_getLsbD_eq (fun i hi => h i hi))
theorem zb_or (x y : Int64) (i : Nat) : zb (x ||| y) i = (zb x i || zb y i) := by unfold zb; rw [Int64.toBitVec_or, BitVec.getLsbD_or]
theorem zb_and (x y : Int64) (i : Nat) : zb (x &&& y) i = (zb x i && zb y i) := by unfold zb; rw [Int64.toBitVec_and, BitVec.getLsbD_and]
theorem zb_xor (x y : Int64) (i : Nat) : zb (x ^^^ y) i = (zb x i ^^ zb y i) := by unfold zb; rw [Int64.toBitVec_xor, BitVec.getLsbD_xor]
theorem zb_big {x : Int64} {i : Nat} (h : 64 ≤ i) : zb x i = false := BitVec.getLsbD_of_ge _ _ h
theorem zb_0 (i : Nat) : zb 0 i = false := BitVec.getLsbD_zero
theorem zb_m1 : ∀ i, i < 64 → zb (-1) i = true := by decide +kernel
theorem zb_not (x : Int64) {i : Nat} (h : i < 64) : zb (x ^^^ (-1)) i = !zb x i := by rw [zb_xor, zb_m1 i h, Bool.xor_true]
theorem zb_shl (x : Int64) (k : Nat) (hk : k < 64) {i : Nat} (hi : i < 64) : zb (x <<< ((nI k).toInt64 &&& 63)) i = (decide (k ≤ i) && zb x (i - k)) := by
  unfold zb
  rw [wb_c k hk, Int64.toBitVec_shiftLeft, wb_tb, wb_sm k hk, BitVec.shiftLeft_eq', BitVec.toNat_ofNat, Nat.mod_eq_of_lt (show k < 2 ^ 64 by omega), BitVec.getLsbD_shiftLeft]
  rcases Nat.lt_or_ge i k with h | h
  · simp [h, Nat.not_le.mpr h]
  · simp [hi, h, Nat.not_lt.mpr h]
theorem zb_su : ∀ n, n < 64 → ((UInt64.ofNat n).toBitVec % 64).toNat = n := by decide +kernel
theorem zb_shr (x : Int64) (k : Nat) (hk : k < 64) (i : Nat) : zb ((x.toUInt64 >>> ((nI k).toInt64.toUInt64 &&& Int64.toUInt64 63)).toInt64) i = zb x (k + i) := by
  rw [wb_cu k hk]
  show (x.toUInt64 >>> UInt64.ofNat k).toBitVec.getLsbD i = x.toUInt64.toBitVec.getLsbD (k + i)
  rw [UInt64.toBitVec_shiftRight]
  show (x.toUInt64.toBitVec >>> ((UInt64.ofNat k).toBitVec % 64).toNat).getLsbD i = _
  rw [zb_su k hk, BitVec.getLsbD_ushiftRight]
theorem zb_31 : ∀ i, i < 64 → zb 31 i = decide (i < 5) := by decide +kernel
theorem zb_1 : ∀ i, i < 64 → zb 1 i = decide (i = 0) := by decide +kernel
theorem zb_i32 (x : Int64) {i : Nat} (hi : i < 32) : bt x.toInt32 i = zb x i := by
  unfold bt zb
  rw [Int64.toBitVec_toInt32, BitVec.getLsbD_signExtend]
  simp [hi, show i < 64 by omega]
theorem zb_i64 {n : Nat} (hn : n < 2 ^ 31) {i : Nat} (hi : i < 64) : zb (nI n).toInt64 i = n.testBit i := by
  rw [nI_l hn]
  unfold zb
  rw [wb_tb, BitVec.getLsbD_ofNat]
  simp [hi]
theorem bt_nI (n : Nat) {i : Nat} (hi : i < 32) : bt (nI n) i = n.testBit i := by
  show (BitVec.ofNat 32 n).getLsbD i = _
  rw [BitVec.getLsbD_ofNat]
  simp [hi]
theorem bt_31 : ∀ i, i < 32 → bt 31 i = decide (i < 5) := by decide +kernel
theorem z5 (c : Nat) : (5 : Int32) * nI c = nI (5 * c) := pk_mul 5 c
theorem zs_bit (x : Int64) {c : Nat} (hc : c ≤ 12) {h : Nat} (hh : h < 32) : bt (f_X5_setIn x (nI c)) h = (decide (h < 5) && zb x (5 * c + h)) := by
  unfold f_X5_setIn
  rw [b_and, bt_31 h hh, z5, zb_i32 _ hh, zb_shr x (5 * c) (by omega), Bool.and_comm]
theorem zs_eq (x y : Int64) {c : Nat} (hc : c ≤ 12) : f_X5_setIn x (nI c) = f_X5_setIn y (nI c) ↔ ∀ h, h < 5 → zb x (5 * c + h) = zb y (5 * c + h) := by
  constructor
  · intro e h hh
    have e1 := congrArg (fun z => bt z h) e
    simp only [zs_bit _ hc (show h < 32 by omega), hh, decide_true, Bool.true_and] at e1
    exact e1
  · intro e
    apply b_ext
    intro h hh
    rw [zs_bit _ hc hh, zs_bit _ hc hh]
    by_cases q : h < 5
    · rw [e h q]
    · simp [q]
theorem zs_0 (x : Int64) {c : Nat} (hc : c ≤ 12) : f_X5_setIn x (nI c) = 0 ↔ ∀ h, h < 5 → zb x (5 * c + h) = false := by
  have h1 : f_X5_setIn 0 (nI c) = 0 := by
    apply b_ext
    intro h hh
    rw [zs_bit _ hc hh, b_0, zb_0, Bool.and_false]
  have h2 := zs_eq x 0 hc
  rw [h1] at h2
  rw [h2]
  constructor
  · intro e h hh
    rw [e h hh, zb_0]
  · intro e h hh
    rw [e h hh, zb_0]
theorem zs_lt (x : Int64) (c : Int32) : ∃ s, s < 32 ∧ f_X5_setIn x c = nI s := by
  unfold f_X5_setIn
  exact pk_andE _ 5 rfl
/-! the count of bits of a long -/
def zM (b : Nat) : Nat → Nat
  | 0 => 0
  | k + 1 => b + 256 * zM b k
theorem z_and8 (a A m M : Nat) (ha : a < 256) (hm : m < 256) : (a + 256 * A) &&& (m + 256 * M) = (a &&& m) + 256 * (A &&& M) := by
  have h1 : ((a + 256 * A) &&& (m + 256 * M)) % 2 ^ 8 = ((a + 256 * A) % 2 ^ 8) &&& ((m + 256 * M) % 2 ^ 8) := Nat.and_mod_two_pow
  have h2 : ((a + 256 * A) &&& (m + 256 * M)) / 2 ^ 8 = ((a + 256 * A) / 2 ^ 8) &&& ((m + 256 * M) / 2 ^ 8) := Nat.and_div_two_pow
  rw [show (a + 256 * A) % 2 ^ 8 = a by omega, show (m + 256 * M) % 2 ^ 8 = m by omega] at h1
  rw [show (a + 256 * A) / 2 ^ 8 = A by omega, show (m + 256 * M) / 2 ^ 8 = M by omega] at h2
  omega
def zY (M1 x : Nat) : Nat := x - (x / 2 &&& M1)
def zZ (M2 y : Nat) : Nat := (y &&& M2) + (y / 4 &&& M2)
def zW (M3 z : Nat) : Nat := (z + z / 16) &&& M3
def zp8 (a : Nat) : Nat := fb_ct (fun i => a.testBit i) 8
theorem z8_1 : ∀ a, a < 256 → ∀ r, r < 2 → (a / 2 + 128 * r) &&& 85 = a / 2 &&& 85 := by decide +kernel
theorem z8_2 : ∀ a, a < 256 → ∀ r, r < 4 → (a / 4 + 64 * r) &&& 51 = a / 4 &&& 51 := by decide +kernel
theorem z8_3 : ∀ a, a < 256 → zZ 51 (zY 85 a) % 16 ≤ 4 ∧ zZ 51 (zY 85 a) ≤ 68 ∧ zY 85 a < 256 := by decide +kernel
theorem z8_4 : ∀ a, a < 256 → ∀ r, r < 5 → (zZ 51 (zY 85 a) + zZ 51 (zY 85 a) / 16 + 16 * r) &&& 15 = zp8 a := by decide +kernel
theorem zY_s (a A k : Nat) (ha : a < 256) : zY (zM 85 (k + 1)) (a + 256 * A) = zY 85 a + 256 * zY (zM 85 k) A := by
  unfold zY
  have e : (a + 256 * A) / 2 = (a / 2 + 128 * (A % 2)) + 256 * (A / 2) := by omega
  have h1 : (a / 2 &&& 85) ≤ a / 2 := Nat.and_le_left
  have h2 : (A / 2 &&& zM 85 k) ≤ A / 2 := Nat.and_le_left
  rw [e, zM, z_and8 _ _ _ _ (by omega) (by omega), z8_1 a ha _ (by omega)]
  omega
theorem zZ_s (b B k : Nat) (hb : b < 256) : zZ (zM 51 (k + 1)) (b + 256 * B) = zZ 51 b + 256 * zZ (zM 51 k) B := by
  unfold zZ
  have e : (b + 256 * B) / 4 = (b / 4 + 64 * (B % 4)) + 256 * (B / 4) := by omega
  rw [e, zM, z_and8 _ _ _ _ hb (by omega), z_and8 _ _ _ _ (by omega) (by omega), z8_2 b hb _ (by omega)]
  omega
theorem zW_s (d D k : Nat) (hd : d ≤ 68) (hD : D % 16 ≤ 4) : zW (zM 15 (k + 1)) (d + 256 * D) = ((d + d / 16 + 16 * (D % 16)) &&& 15) + 256 * zW (zM 15 k) D := by
  unfold zW
  have e : d + 256 * D + (d + 256 * D) / 16 = (d + d / 16 + 16 * (D % 16)) + 256 * (D + D / 16) := by omega
  rw [e, zM, z_and8 _ _ _ _ (by omega) (by omega)]
def zR : Nat → Nat → Nat
  | 0, _ => 0
  | k + 1, x => zp8 (x % 256) + 256 * zR k (x / 256)
theorem zW_all : ∀ (k x : Nat), x < 256 ^ k → zZ (zM 51 k) (zY (zM 85 k) x) % 16 ≤ 4 ∧ zW (zM 15 k) (zZ (zM 51 k) (zY (zM 85 k) x)) = zR k x := by
  intro k
  induction k with
  | zero =>
    intro x hx
    have : x = 0 := by simpa using hx
    subst this
    decide
  | succ k ih =>
    intro x hx
    have hA : x / 256 < 256 ^ k := by rw [Nat.pow_succ] at hx; exact Nat.div_lt_of_lt_mul (by rw [Nat.mul_comm]; exact hx)
    obtain ⟨i1, i2⟩ := ih (x / 256) hA
    have ha : x % 256 < 256 := Nat.mod_lt _ (by decide)
    have ex : x = x % 256 + 256 * (x / 256) := by omega
    obtain ⟨b1, b2, b3⟩ := z8_3 (x % 256) ha
    have e1 : zZ (zM 51 (k + 1)) (zY (zM 85 (k + 1)) x) = zZ 51 (zY 85 (x % 256)) + 256 * zZ (zM 51 k) (zY (zM 85 k) (x / 256)) := by
      conv => lhs; rw [ex]
      rw [zY_s _ _ _ ha, zZ_s _ _ _ b3]
    rw [e1]
    refine ⟨by omega, ?_⟩
    rw [zW_s _ _ _ b2 i1, i2, z8_4 _ ha _ (by omega), zR]
def zQ : Nat → Nat → Nat
  | 0, _ => 0
  | k + 1, x => zp8 (x % 256) + zQ k (x / 256)
theorem zp8_le (a : Nat) : zp8 a ≤ 8 := fb_ct_le _ 8
theorem zQ_ct : ∀ (k x : Nat), fb_ct (fun i => x.testBit i) (8 * k) = zQ k x := by
  intro k
  induction k with
  | zero => intro x; rfl
  | succ k ih =>
    intro x
    rw [show 8 * (k + 1) = 8 + 8 * k by omega, fb_ct_split, zQ, ← ih (x / 256)]
    congr 1
    · apply fb_ct_cong
      intro i hi
      show _ = (x % 2 ^ 8).testBit i
      rw [Nat.testBit_mod_two_pow, decide_eq_true hi, Bool.true_and]
    · apply fb_ct_cong
      intro i hi
      show _ = (x / 2 ^ 8).testBit i
      rw [Nat.testBit_div_two_pow, Nat.add_comm]
theorem zdv1 (a A : Nat) (ha : a < 256) : (a + 256 * A) / 256 = A := by omega
theorem zdv2 (a b A : Nat) (ha : a < 256) (hb : b < 256) : (a + 256 * (b + 256 * A)) / 65536 = A := by omega
theorem zdv4 (a b c d A : Nat) (ha : a < 256) (hb : b < 256) (hc : c < 256) (hd : d < 256) : (a + 256 * (b + 256 * (c + 256 * (d + 256 * A)))) / 4294967296 = A := by omega
theorem zmd (a A : Nat) (ha : a < 128) : (a + 256 * A) % 128 = a := by omega
theorem zlt1 (a X K : Nat) (ha : a < 256) (h : X < K) : a + 256 * X < 256 * K := by omega
theorem zs8 (a b c d e f g h : Nat) : (a + 256 * (b + 256 * (c + 256 * (d + 256 * (e + 256 * (f + 256 * (g + 256 * (h + 256 * 0)))))))) + (b + 256 * (c + 256 * (d + 256 * (e + 256 * (f + 256 * (g + 256 * (h + 256 * 0))))))) = (a + b) + 256 * ((b + c) + 256 * ((c + d) + 256 * ((d + e) + 256 * ((e + f) + 256 * ((f + g) + 256 * ((g + h) + 256 * h)))))) := by omega
theorem zs6 (a b c d e f g h : Nat) : (a + 256 * (b + 256 * (c + 256 * (d + 256 * (e + 256 * (f + 256 * (g + 256 * h))))))) + (c + 256 * (d + 256 * (e + 256 * (f + 256 * (g + 256 * h))))) = (a + c) + 256 * ((b + d) + 256 * ((c + e) + 256 * ((d + f) + 256 * ((e + g) + 256 * ((f + h) + 256 * (g + 256 * h)))))) := by omega
theorem zs4 (a X b Y : Nat) : (a + 256 * X) + (b + 256 * Y) = (a + b) + 256 * (X + Y) := by omega
theorem zfin {a b c d e f g h v : Nat} (ha : a ≤ 8) (hb : b ≤ 8) (hc : c ≤ 8) (hd : d ≤ 8) (he : e ≤ 8) (hf : f ≤ 8) (hg : g ≤ 8) (hh : h ≤ 8)
    (hv : v = a + 256 * (b + 256 * (c + 256 * (d + 256 * (e + 256 * (f + 256 * (g + 256 * (h + 256 * 0)))))))) :
    (v + v / 256 + (v + v / 256) / 65536 + (v + v / 256 + (v + v / 256) / 65536) / 4294967296) % 128 = a + (b + (c + (d + (e + (f + (g + (h + 0))))))) := by
  rw [hv, zdv1 _ _ (show a < 256 by clear hv; omega), zs8, zdv2 _ _ _ (show a + b < 256 by clear hv; omega) (show b + c < 256 by clear hv; omega), zs6, zdv4 _ _ _ _ _ (show a + b + (c + d) < 256 by clear hv; omega) (show b + c + (d + e) < 256 by clear hv; omega) (show c + d + (e + f) < 256 by clear hv; omega) (show d + e + (f + g) < 256 by clear hv; omega), zs4, zmd _ _ (by clear hv; omega)]
  clear hv
  omega
theorem zfin2 {a b c d e f g h v : Nat} (ha : a ≤ 8) (hb : b ≤ 8) (hc : c ≤ 8) (hd : d ≤ 8) (he : e ≤ 8) (hf : f ≤ 8) (hg : g ≤ 8) (hh : h ≤ 8)
    (hv : v = a + 256 * (b + 256 * (c + 256 * (d + 256 * (e + 256 * (f + 256 * (g + 256 * (h + 256 * 0)))))))) : v < 2 ^ 60 := by
  have q : v < 256 * (256 * (256 * (256 * (256 * (256 * (256 * 16)))))) := by
    rw [hv]
    clear hv
    refine zlt1 _ _ _ (by omega) (zlt1 _ _ _ (by omega) (zlt1 _ _ _ (by omega) (zlt1 _ _ _ (by omega) (zlt1 _ _ _ (by omega) (zlt1 _ _ _ (by omega) (zlt1 _ _ _ (by omega) ?_))))))
    omega
  exact Nat.lt_of_lt_of_le q (by decide)
theorem zlet {α β : Type} {x y : α} {k : α → β} (h : x = y) : q_let x k = k y := by subst h; rfl
theorem zR8 (x : Nat) : zR 8 x = zp8 (x % 256) + 256 * (zp8 (x / 256 % 256) + 256 * (zp8 (x / 256 / 256 % 256) + 256 * (zp8 (x / 256 / 256 / 256 % 256) + 256 * (zp8 (x / 256 / 256 / 256 / 256 % 256) + 256 * (zp8 (x / 256 / 256 / 256 / 256 / 256 % 256) + 256 * (zp8 (x / 256 / 256 / 256 / 256 / 256 / 256 % 256) + 256 * (zp8 (x / 256 / 256 / 256 / 256 / 256 / 256 / 256 % 256) + 256 * 0))))))) := by
  rw [zR, zR, zR, zR, zR, zR, zR, zR, zR]
theorem zQ8 (x : Nat) : zQ 8 x = zp8 (x % 256) + (zp8 (x / 256 % 256) + (zp8 (x / 256 / 256 % 256) + (zp8 (x / 256 / 256 / 256 % 256) + (zp8 (x / 256 / 256 / 256 / 256 % 256) + (zp8 (x / 256 / 256 / 256 / 256 / 256 % 256) + (zp8 (x / 256 / 256 / 256 / 256 / 256 / 256 % 256) + (zp8 (x / 256 / 256 / 256 / 256 / 256 / 256 / 256 % 256) + 0))))))) := by
  rw [zQ, zQ, zQ, zQ, zQ, zQ, zQ, zQ, zQ]
