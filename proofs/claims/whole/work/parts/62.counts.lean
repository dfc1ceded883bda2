/-! how many steps are planned -/
def cs1 (p : Int64) : Int64 := p - (((p.toUInt64 >>> ((1 : Int32).toInt64.toUInt64 &&& Int64.toUInt64 63)).toInt64) &&& 6148914691236517205)
def cs2 (p : Int64) : Int64 := (p &&& 3689348814741910323) + (((p.toUInt64 >>> ((2 : Int32).toInt64.toUInt64 &&& Int64.toUInt64 63)).toInt64) &&& 3689348814741910323)
def cs3 (p : Int64) : Int64 := (p + ((p.toUInt64 >>> ((4 : Int32).toInt64.toUInt64 &&& Int64.toUInt64 63)).toInt64)) &&& 1085102592571150095
def cs4 (p : Int64) : Int64 := p + ((p.toUInt64 >>> ((8 : Int32).toInt64.toUInt64 &&& Int64.toUInt64 63)).toInt64)
def cs5 (p : Int64) : Int64 := p + ((p.toUInt64 >>> ((16 : Int32).toInt64.toUInt64 &&& Int64.toUInt64 63)).toInt64)
def cs6 (p : Int64) : Int64 := p + ((p.toUInt64 >>> ((32 : Int32).toInt64.toUInt64 &&& Int64.toUInt64 63)).toInt64)
theorem q_bitn_cs {p : Int64} : q_bitn p = (cs6 (cs5 (cs4 (cs3 (cs2 (cs1 p)))))).toInt32 &&& 127 := rfl
theorem us_nat (x : Int64) (s : UInt64) (k : Nat) (hs : (s.toBitVec % 64).toNat = k) : (x.toUInt64 >>> s).toInt64.toBitVec.toNat = x.toBitVec.toNat / 2 ^ k := by
  have e : (x.toUInt64 >>> s).toInt64.toBitVec = x.toBitVec >>> k := by
    rw [← hs]
    exact UInt64.toBitVec_shiftRight _ _
  rw [e, BitVec.toNat_ushiftRight, Nat.shiftRight_eq_div_pow]
/-- masks of bytes; the steps over numbers -/
def mB (m : Nat) : Nat → Nat
  | 0 => 0
  | n + 1 => m + 256 * mB m n
def f1 (M x : Nat) : Nat := x - (x / 2 &&& M)
def f2 (M x : Nat) : Nat := (x &&& M) + (x / 4 &&& M)
def f3 (M x : Nat) : Nat := (x + x / 16) &&& M
theorem and_by {b y m M : Nat} (hb : b < 256) (hm : m < 256) : (b + 256 * y) &&& (m + 256 * M) = (b &&& m) + 256 * (y &&& M) := by
  have h1 : ((b + 256 * y) &&& (m + 256 * M)) % 2 ^ 8 = b &&& m := by
    rw [Nat.and_mod_two_pow, show (b + 256 * y) % 2 ^ 8 = b by omega, show (m + 256 * M) % 2 ^ 8 = m by omega]
  have h2 : ((b + 256 * y) &&& (m + 256 * M)) / 2 ^ 8 = y &&& M := by
    rw [Nat.and_div_two_pow, show (b + 256 * y) / 2 ^ 8 = y by omega, show (m + 256 * M) / 2 ^ 8 = M by omega]
  omega
theorem d85 : ∀ (b : Fin 256) (r : Fin 2), (b.1 / 2 + 128 * r.1) &&& 85 = b.1 / 2 &&& 85 := by decide +kernel
theorem d51 : ∀ (b : Fin 256) (r : Fin 4), (b.1 / 4 + 64 * r.1) &&& 51 = b.1 / 4 &&& 51 := by decide +kernel
theorem f1_by {b y M : Nat} (hb : b < 256) : f1 (85 + 256 * M) (b + 256 * y) = f1 85 b + 256 * f1 M y := by
  unfold f1
  have e : (b + 256 * y) / 2 = (b / 2 + 128 * (y % 2)) + 256 * (y / 2) := by omega
  have h1 : b / 2 &&& 85 ≤ b / 2 := Nat.and_le_left
  have h2 : y / 2 &&& M ≤ y / 2 := Nat.and_le_left
  rw [e, and_by (by omega) (by decide), d85 ⟨b, hb⟩ ⟨y % 2, by omega⟩]
  show b + 256 * y - ((b / 2 &&& 85) + 256 * (y / 2 &&& M)) = _
  omega
theorem f1_lt : ∀ b : Fin 256, f1 85 b.1 < 256 := by decide +kernel
theorem f2_by {b y M : Nat} (hb : b < 256) : f2 (51 + 256 * M) (b + 256 * y) = f2 51 b + 256 * f2 M y := by
  unfold f2
  have e : (b + 256 * y) / 4 = (b / 4 + 64 * (y % 4)) + 256 * (y / 4) := by omega
  rw [e, and_by hb (by decide), and_by (by omega) (by decide), d51 ⟨b, hb⟩ ⟨y % 4, by omega⟩]
  show (b &&& 51) + 256 * (y &&& M) + ((b / 4 &&& 51) + 256 * (y / 4 &&& M)) = _
  omega
def gb (b : Nat) : Nat := f2 51 (f1 85 b)
theorem gb_b : ∀ b : Fin 256, gb b.1 ≤ 68 ∧ gb b.1 % 16 ≤ 4 ∧ gb b.1 / 16 ≤ 4 := by decide +kernel
theorem f3_by {b y M : Nat} (hb : b ≤ 68) (hb2 : b / 16 ≤ 4) (hy : y % 16 ≤ 4) : f3 (15 + 256 * M) (b + 256 * y) = (b + b / 16) % 16 + 256 * f3 M y := by
  unfold f3
  have e : b + 256 * y + (b + 256 * y) / 16 = (b + b / 16 + 16 * (y % 16)) + 256 * (y + y / 16) := by omega
  rw [e, and_by (by omega) (by decide), show (15 : Nat) = 2 ^ 4 - 1 from rfl, Nat.and_two_pow_sub_one_eq_mod]
  omega
def hB (n x : Nat) : Nat := f2 (mB 51 n) (f1 (mB 85 n) x)
theorem hB_by {n b y : Nat} (hb : b < 256) : hB (n + 1) (b + 256 * y) = gb b + 256 * hB n y := by
  unfold hB
  show f2 (51 + 256 * mB 51 n) (f1 (85 + 256 * mB 85 n) (b + 256 * y)) = _
  rw [f1_by hb, f2_by (f1_lt ⟨b, hb⟩)]
  rfl
theorem hB_0 : hB 0 0 = 0 := by decide
theorem hB_lo {n y : Nat} (h : y < 256 ^ n) : hB n y % 16 ≤ 4 := by
  cases n with
  | zero =>
    have : y = 0 := by
      rw [Nat.pow_zero] at h
      omega
    rw [this, hB_0]
    decide
  | succ n =>
    have e : y = y % 256 + 256 * (y / 256) := by omega
    rw [e, hB_by (Nat.mod_lt _ (by decide))]
    have := (gb_b ⟨y % 256, Nat.mod_lt _ (by decide)⟩).2.1
    have e2 : (gb (y % 256) + 256 * hB n (y / 256)) % 16 = gb (y % 256) % 16 := by omega
    rw [e2]
    exact this
def pB (b : Nat) : Nat := (gb b + gb b / 16) % 16
def FB (n x : Nat) : Nat := f3 (mB 15 n) (hB n x)
theorem FB_by {n b y : Nat} (hb : b < 256) (hy : y < 256 ^ n) : FB (n + 1) (b + 256 * y) = pB b + 256 * FB n y := by
  unfold FB
  rw [hB_by hb]
  obtain ⟨g1, -, g3⟩ := gb_b ⟨b, hb⟩
  exact f3_by g1 g3 (hB_lo hy)
/-- bits one by one -/
def bS : Nat → Nat → Nat
  | 0, _ => 0
  | n + 1, x => x % 2 + bS n (x / 2)
theorem bS_add : ∀ (a d x : Nat), bS (a + d) x = bS a x + bS d (x / 2 ^ a)
  | 0, d, x => by rw [Nat.zero_add, Nat.pow_zero, Nat.div_one, bS, Nat.zero_add]
  | a + 1, d, x => by
    rw [show a + 1 + d = (a + d) + 1 by omega, bS, bS, bS_add a d (x / 2), Nat.div_div_eq_div_mul, Nat.pow_succ, Nat.mul_comm (2 ^ a) 2, Nat.add_assoc]
theorem bS_0 : ∀ n, bS n 0 = 0
  | 0 => rfl
  | n + 1 => by rw [bS, Nat.zero_mod, Nat.zero_div, bS_0 n]
theorem bS_mod : ∀ (n x : Nat), bS n x = bS n (x % 2 ^ n)
  | 0, _ => rfl
  | n + 1, x => by
    have e1 : x % 2 ^ (n + 1) % 2 = x % 2 := by
      rw [Nat.pow_succ, Nat.mul_comm]
      exact Nat.mod_mul_right_mod x 2 (2 ^ n)
    have e2 : x % 2 ^ (n + 1) / 2 = x / 2 % 2 ^ n := by
      rw [Nat.pow_succ, Nat.mul_comm]
      exact Nat.mod_mul_right_div_self x 2 (2 ^ n)
    rw [bS, bS, e1, e2, bS_mod n (x / 2)]
theorem pB_bS : ∀ b : Fin 256, pB b.1 = bS 8 b.1 ∧ bS 8 b.1 ≤ 8 := by decide +kernel
/-- sums of bytes -/
def sB : Nat → Nat → Nat
  | 0, _ => 0
  | n + 1, x => x % 256 + sB n (x / 256)
def cS : Nat → Nat → Nat
  | 0, _ => 0
  | n + 1, x => pB (x % 256) + cS n (x / 256)
def cF : Nat → Nat → Nat
  | 0, _ => 0
  | n + 1, x => pB (x % 256) + 256 * cF n (x / 256)
theorem cS_bS : ∀ (n x : Nat), bS (8 * n) x = cS n x
  | 0, _ => rfl
  | n + 1, x => by
    rw [show 8 * (n + 1) = 8 + 8 * n by omega, bS_add, cS, cS_bS n, bS_mod 8 x, show (2 : Nat) ^ 8 = 256 from rfl, (pB_bS ⟨x % 256, Nat.mod_lt _ (by decide)⟩).1]
theorem FB_cF : ∀ (n x : Nat), x < 256 ^ n → FB n x = cF n x
  | 0, x, h => by
    have : x = 0 := by
      rw [Nat.pow_zero] at h
      omega
    rw [this]
    decide
  | n + 1, x, h => by
    have h2 : x / 256 < 256 ^ n := by
      rw [Nat.pow_succ] at h
      exact Nat.div_lt_of_lt_mul (by rw [Nat.mul_comm]; exact h)
    have e : x = x % 256 + 256 * (x / 256) := by omega
    rw [cF, ← FB_cF n (x / 256) h2, ← FB_by (Nat.mod_lt _ (by decide)) h2, ← e]
theorem pB_8 (x : Nat) : pB (x % 256) ≤ 8 := by
  have := pB_bS ⟨x % 256, Nat.mod_lt _ (by decide)⟩
  rw [this.1]
  exact this.2
theorem dv1 {c X : Nat} (h : c < 256) : (c + 256 * X) / 256 = X := by omega
theorem dv2 {a b X : Nat} (ha : a < 256) (hb : b < 256) : (a + 256 * (b + 256 * X)) / 65536 = X := by omega
theorem dv4 {a b c d X : Nat} (ha : a < 256) (hb : b < 256) (hc : c < 256) (hd : d < 256) : (a + 256 * (b + 256 * (c + 256 * (d + 256 * X)))) / 4294967296 = X := by omega
theorem fold8 {c0 c1 c2 c3 c4 c5 c6 c7 X1 X2 X3 X4 X5 X6 X7 : Nat} (h0 : c0 ≤ 8) (h1 : c1 ≤ 8) (h2 : c2 ≤ 8) (h3 : c3 ≤ 8) (h4 : c4 ≤ 8) (h5 : c5 ≤ 8) (h6 : c6 ≤ 8) (h7 : c7 ≤ 8) {x s4 s5 s6 : Nat} (hx : x = c0 + 256 * X1) (x1 : X1 = c1 + 256 * X2) (x2 : X2 = c2 + 256 * X3) (x3 : X3 = c3 + 256 * X4) (x4 : X4 = c4 + 256 * X5) (x5 : X5 = c5 + 256 * X6) (x6 : X6 = c6 + 256 * X7) (x7 : X7 = c7 + 256 * 0) (e4 : s4 = x + x / 256) (e5 : s5 = s4 + s4 / 65536) (e6 : s6 = s5 + s5 / 4294967296) : s6 % 128 = c0 + (c1 + (c2 + (c3 + (c4 + (c5 + (c6 + (c7 + 0))))))) ∧ x < 2 ^ 60 ∧ s4 < 2 ^ 61 ∧ s5 < 2 ^ 62 ∧ s6 < 2 ^ 63 := by
  have d1 : x / 256 = X1 := by
    rw [hx]
    exact dv1 (by omega)
  have f4 : s4 = (c0 + c1) + 256 * ((c1 + c2) + 256 * (X2 + X3)) := by
    rw [e4, d1, hx, x1, x2]
    clear e4 e5 e6 d1 hx x1 x2 x4 x5 x6 x7
    omega
  have d4 : s4 / 65536 = X2 + X3 := by
    rw [f4]
    exact dv2 (by omega) (by omega)
  have f5 : s5 = (c0 + c1 + (c2 + c3)) + 256 * ((c1 + c2 + (c3 + c4)) + 256 * ((c2 + c3 + (c4 + c5)) + 256 * ((c3 + c4 + (c5 + c6)) + 256 * (X4 + X5 + (X6 + X7))))) := by
    rw [e5, d4, f4, x2, x3, x4, x5, x6]
    clear e4 e5 e6 d1 d4 f4 hx x1 x2 x3 x4 x5 x6 x7
    omega
  have d5 : s5 / 4294967296 = X4 + X5 + (X6 + X7) := by
    rw [f5]
    exact dv4 (by omega) (by omega) (by omega) (by omega)
  have b7 : X7 ≤ 8 := by omega
  have b6 : X6 ≤ 2056 := by omega
  have b5 : X5 ≤ 526344 := by omega
  have b4 : X4 ≤ 134744072 := by omega
  have b3 : X3 ≤ 34494482440 := by omega
  have b2 : X2 ≤ 8830587504648 := by omega
  have b1 : X1 ≤ 2260630401189896 := by omega
  refine ⟨?_, ?_, ?_, ?_, ?_⟩
  · rw [e6, d5, f5, x4, x5, x6, x7]
    clear e4 e5 e6 d1 d4 d5 f4 f5 hx x1 x2 x3 x4 x5 x6 x7 b1 b2 b3 b4 b5 b6 b7
    omega
  · omega
  · rw [e4, d1]
    omega
  · rw [e5, d4, e4, d1]
    omega
  · rw [e6, d5, e5, d4, e4, d1]
    omega
theorem hu_N {X : Nat} {s : UInt64} (k : Nat) (hX : X < 2 ^ 64) (hs : (s.toBitVec % 64).toNat = k) : ((lN X).toUInt64 >>> s).toInt64.toBitVec.toNat = X / 2 ^ k := by rw [us_nat _ s k hs, lN_toNat hX]
theorem sh1 : ((((1 : Int32).toInt64.toUInt64 &&& Int64.toUInt64 63)).toBitVec % 64).toNat = 1 := by decide
theorem sh2 : ((((2 : Int32).toInt64.toUInt64 &&& Int64.toUInt64 63)).toBitVec % 64).toNat = 2 := by decide
theorem sh4 : ((((4 : Int32).toInt64.toUInt64 &&& Int64.toUInt64 63)).toBitVec % 64).toNat = 4 := by decide
theorem sh8 : ((((8 : Int32).toInt64.toUInt64 &&& Int64.toUInt64 63)).toBitVec % 64).toNat = 8 := by decide
theorem sh16 : ((((16 : Int32).toInt64.toUInt64 &&& Int64.toUInt64 63)).toBitVec % 64).toNat = 16 := by decide
theorem sh32 : ((((32 : Int32).toInt64.toUInt64 &&& Int64.toUInt64 63)).toBitVec % 64).toNat = 32 := by decide
theorem mm1 : (6148914691236517205 : Int64).toBitVec.toNat = 6148914691236517205 := rfl
theorem mm2 : (3689348814741910323 : Int64).toBitVec.toNat = 3689348814741910323 := rfl
theorem mm3 : (1085102592571150095 : Int64).toBitVec.toNat = 1085102592571150095 := rfl
theorem mb1 : mB 85 8 = 6148914691236517205 := rfl
theorem mb2 : mB 51 8 = 3689348814741910323 := rfl
theorem mb3 : mB 15 8 = 1085102592571150095 := rfl
theorem st1 {P : Nat} (hP : P < 2 ^ 60) : cs1 (lN P) = lN (f1 6148914691236517205 P) := by
  refine lN_nat ?_
  have hy : ((((lN P).toUInt64 >>> ((1 : Int32).toInt64.toUInt64 &&& Int64.toUInt64 63)).toInt64) &&& 6148914691236517205).toBitVec.toNat = (P / 2 &&& 6148914691236517205) := by
    rw [Int64.toBitVec_and, BitVec.toNat_and, hu_N 1 (by omega) sh1, mm1]
  have hle : (P / 2 &&& 6148914691236517205) ≤ P := Nat.le_trans Nat.and_le_left (Nat.div_le_self _ _)
  unfold cs1 f1
  rw [Int64.toBitVec_sub, BitVec.toNat_sub_of_le (BitVec.le_def.mpr (by rw [hy, lN_toNat (by omega)]; exact hle)), hy, lN_toNat (by omega)]
theorem st2 {Q : Nat} (l1 : Q < 2 ^ 60) : cs2 (lN Q) = lN (f2 3689348814741910323 Q) := by
  refine lN_nat ?_
  unfold cs2 f2
  have h1 : Q &&& 3689348814741910323 ≤ 3689348814741910323 := Nat.and_le_right
  have h2 : Q / 4 &&& 3689348814741910323 ≤ 3689348814741910323 := Nat.and_le_right
  rw [Int64.toBitVec_add, BitVec.toNat_add, Int64.toBitVec_and, BitVec.toNat_and, Int64.toBitVec_and, BitVec.toNat_and, hu_N 2 (by omega) sh2, lN_toNat (by omega), mm2, show Q / 2 ^ 2 = Q / 4 from rfl]
  generalize Q &&& 3689348814741910323 = a at h1
  generalize Q / 4 &&& 3689348814741910323 = b at h2
  exact Nat.mod_eq_of_lt (by omega)
theorem st3 {Q : Nat} (l2 : Q ≤ 2 * 3689348814741910323) : cs3 (lN Q) = lN (f3 1085102592571150095 Q) := by
  refine lN_nat ?_
  unfold cs3 f3
  rw [Int64.toBitVec_and, BitVec.toNat_and, Int64.toBitVec_add, BitVec.toNat_add, hu_N 4 (by omega) sh4, lN_toNat (by omega), mm3, show Q / 2 ^ 4 = Q / 16 from rfl, Nat.mod_eq_of_lt (show Q + Q / 16 < 2 ^ 64 by omega)]
theorem st4 {x : Nat} (h : x < 2 ^ 60) : cs4 (lN x) = lN (x + x / 256) := by
  refine lN_nat ?_
  unfold cs4
  rw [Int64.toBitVec_add, BitVec.toNat_add, hu_N 8 (by omega) sh8, lN_toNat (by omega), show x / 2 ^ 8 = x / 256 from rfl]
  exact Nat.mod_eq_of_lt (by omega)
theorem st5 {x : Nat} (h : x < 2 ^ 61) : cs5 (lN x) = lN (x + x / 65536) := by
  refine lN_nat ?_
  unfold cs5
  rw [Int64.toBitVec_add, BitVec.toNat_add, hu_N 16 (by omega) sh16, lN_toNat (by omega), show x / 2 ^ 16 = x / 65536 from rfl]
  exact Nat.mod_eq_of_lt (by omega)
theorem st6 {x : Nat} (h : x < 2 ^ 62) : cs6 (lN x) = lN (x + x / 4294967296) := by
  refine lN_nat ?_
  unfold cs6
  rw [Int64.toBitVec_add, BitVec.toNat_add, hu_N 32 (by omega) sh32, lN_toNat (by omega), show x / 2 ^ 32 = x / 4294967296 from rfl]
  exact Nat.mod_eq_of_lt (by omega)
theorem st7 {v : Nat} (h : v < 2 ^ 63) : (lN v).toInt32 &&& 127 = nI (v % 128) := by
  rw [pk_and _ 7 (by decide), Int64.toBitVec_toInt32, BitVec.signExtend_eq_setWidth_of_le _ (by decide), BitVec.toNat_setWidth, lN_toNat (by omega)]
  congr 1
  show v % 2 ^ 32 % 128 = v % 128
  omega
theorem cF_S (n x : Nat) : cF (n + 1) x = pB (x % 256) + 256 * cF n (x / 256) := rfl
theorem cS_S (n x : Nat) : cS (n + 1) x = pB (x % 256) + cS n (x / 256) := rfl
theorem FB8 {P : Nat} (hP : P < 2 ^ 60) : cs3 (cs2 (cs1 (lN P))) = lN (cF 8 P) := by
  have l1 : f1 6148914691236517205 P < 2 ^ 60 := Nat.lt_of_le_of_lt (Nat.sub_le _ _) hP
  have l2 : f2 3689348814741910323 (f1 6148914691236517205 P) ≤ 2 * 3689348814741910323 := by
    unfold f2
    generalize f1 6148914691236517205 P = Q
    have h1 : Q &&& 3689348814741910323 ≤ 3689348814741910323 := Nat.and_le_right
    have h2 : Q / 4 &&& 3689348814741910323 ≤ 3689348814741910323 := Nat.and_le_right
    generalize Q &&& 3689348814741910323 = a at h1 ⊢
    generalize Q / 4 &&& 3689348814741910323 = b at h2 ⊢
    omega
  rw [st1 hP, st2 l1, st3 l2, ← FB_cF 8 P (Nat.lt_of_lt_of_le hP (by decide))]
  unfold FB hB
  rw [mb1, mb2, mb3]
theorem q_bitn_N {P : Nat} (hP : P < 2 ^ 60) : q_bitn (lN P) = nI (bS 60 P) := by
  have hsum : bS 60 P = cS 8 P := by
    rw [← cS_bS 8 P, show 8 * 8 = 60 + 4 from rfl, bS_add, Nat.div_eq_of_lt hP, bS_0, Nat.add_zero]
  obtain ⟨g1, g2, g3, g4, g5⟩ := fold8 (pB_8 P) (pB_8 (P / 256)) (pB_8 (P / 256 / 256)) (pB_8 (P / 256 / 256 / 256)) (pB_8 (P / 256 / 256 / 256 / 256)) (pB_8 (P / 256 / 256 / 256 / 256 / 256)) (pB_8 (P / 256 / 256 / 256 / 256 / 256 / 256)) (pB_8 (P / 256 / 256 / 256 / 256 / 256 / 256 / 256)) (cF_S 7 P) (cF_S 6 _) (cF_S 5 _) (cF_S 4 _) (cF_S 3 _) (cF_S 2 _) (cF_S 1 _) (cF_S 0 _) rfl rfl rfl
  rw [q_bitn_cs, FB8 hP, st4 g2, st5 g3, st6 g4, st7 g5, g1, hsum, cS_S, cS_S, cS_S, cS_S, cS_S, cS_S, cS_S, cS_S]
  rfl
theorem ct_loop {n P : Nat} {J : zx_I} {M : zx_L} {K : Int32 → Option Int32} (hP : P < 2 ^ 60) (hM : M 0 9 = lN P) : ∀ (d t e s : Nat), t + d = 60 → d < e → mf_count_71 n J M K e (nI s) (nI t) = K (nI (s + bS d (P / 2 ^ t))) := by
  intro d
  induction d with
  | zero =>
    intro t e s ht he
    obtain ⟨e, rfl⟩ : ∃ e9, e = e9 + 1 := ⟨e - 1, by omega⟩
    show mf_count_71_b _ _ _ _ _ _ _ = _
    unfold mf_count_71_b
    rw [if_pos (show (60 : Int32) ≤ nI t from nI_le (a := 60) (by omega) (by omega))]
    rfl
  | succ d ih =>
    intro t e s ht he
    obtain ⟨e, rfl⟩ : ∃ e9, e = e9 + 1 := ⟨e - 1, by omega⟩
    have hb : (if (lN P).toBitVec.getLsbD t = true then (1 : Int32) else 0) = nI (P / 2 ^ t % 2) := by
      have e1 : (lN P).toBitVec.getLsbD t = decide (P / 2 ^ t % 2 = 1) := by
        rw [← BitVec.testBit_toNat, lN_toNat (by omega), Nat.testBit_eq_decide_div_mod_eq]
      rw [e1]
      rcases (show P / 2 ^ t % 2 = 0 ∨ P / 2 ^ t % 2 = 1 by omega) with u | u
      · rw [u]; rfl
      · rw [u]; rfl
    show mf_count_71_b _ _ _ _ _ _ _ = _
    unfold mf_count_71_b
    rw [if_neg (show ¬ (60 : Int32) ≤ nI t from nI_ge (b := 60) (by omega) (by decide)), hM, b_shr (by omega), b_32, hb, nI_add, ← nI_succ, ih (t + 1) e _ (by omega) (by omega), bS, Nat.div_div_eq_div_mul, ← Nat.pow_succ, Nat.add_assoc]
theorem cr_count {h sp : Nat} {la : Option Nat} {I : zx_I} {L : zx_L} {J : zx_I} {M : zx_L} (what : Int32) (hW : WR h sp I L J M) : CR mm_X9_count mm_X10_count [.int what] h sp la I L J M := by
  have hW0 := hW
  obtain ⟨m, p, c, f, ct, q⟩ := hW
  obtain ⟨w1, w2, w3, ⟨w4, P, hP, eP⟩, w5⟩ := q.2.2.2.2.2.2.1
  obtain ⟨l, l1, l2, l3, l4⟩ := q.2.2.2.2.2.1
  obtain ⟨kk, k1, k2, k3, k4⟩ := q.2.2.2.2.2.2.2
  have e0 : J 3 0 = I h 1 := q.2.2.2.1 0 (by omega)
  have e15 : J 3 15 = I h 12 := q.2.2.2.1 15 (by omega)
  have e16 : mf_many J = I h 13 := q.2.2.2.1 16 (by omega)
  have e11 : J 3 11 = I h 8 := q.2.2.2.1 11 (by omega)
  refine cr_ret (J' := J) (ct_X9_count (d := 7) q.1) (mt_count (d := 7) (n := 200) (p := q_count I L h what) ?_) hW0
  have hc := ct_loop (n := 200) (J := J) (K := fun x2_71 => some (x2_71)) hP (w4.trans eP) 60 0 200 0 rfl (by omega)
  rw [Nat.zero_add, Nat.pow_zero, Nat.div_one] at hc
  unfold mf_count q_count
  rw [e0, e15, e16, e11, l3, l2, k3, k2, eP, q_bitn_N hP]
  rw [show mf_count_71 200 J M (fun x2_71 => some (x2_71)) 200 (0 : Int32) (0 : Int32) = some (nI (bS 60 P)) from hc]
  by_cases y0 : what.toInt = 0
  · rw [if_pos y0, if_pos y0]
  · rw [if_neg y0, if_neg y0]
    by_cases y1 : what.toInt = 1
    · rw [if_pos y1, if_pos y1]
    · rw [if_neg y1, if_neg y1]
      by_cases y2 : what.toInt = 2
      · rw [if_pos y2, if_pos y2]
      · rw [if_neg y2, if_neg y2]
        by_cases y3 : what.toInt = 3
        · rw [if_pos y3, if_pos y3]
        · rw [if_neg y3, if_neg y3]
          by_cases y4 : what.toInt = 4
          · rw [if_pos y4, if_pos y4]
          · rw [if_neg y4, if_neg y4]
            by_cases y5 : what.toInt = 5
            · rw [if_pos y5, if_pos y5]
            · rw [if_neg y5, if_neg y5]
              by_cases y6 : what.toInt = 6
              · rw [if_pos y6, if_pos y6]
              · rw [if_neg y6, if_neg y6]
