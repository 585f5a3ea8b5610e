/-! how many bits an int has, as the JDK counts them -/
theorem xv_ushr {a s : Nat} (ha : a < 2147483648) (hs : s < 32) : (Int32.toUInt32 (Int32.ofNat a) >>> (Int32.toUInt32 (Int32.ofNat s) &&& Int32.toUInt32 (Int32.ofNat 31))).toInt32 = Int32.ofNat (a >>> s) := by
  have e1 : (Int32.toUInt32 (Int32.ofNat s) &&& Int32.toUInt32 (Int32.ofNat 31)) = UInt32.ofNat s := by
    have : ∀ s, s < 32 → (Int32.toUInt32 (Int32.ofNat s) &&& Int32.toUInt32 (Int32.ofNat 31)) = UInt32.ofNat s := by decide
    exact this s hs
  rw [e1]
  have e2 : Int32.toUInt32 (Int32.ofNat a) >>> UInt32.ofNat s = UInt32.ofNat (a >>> s) := by
    apply UInt32.toNat_inj.mp
    have a1 : (Int32.toUInt32 (Int32.ofNat a)).toNat = a := by
      show (UInt32.ofNat a).toNat = a
      rw [UInt32.toNat_ofNat']
      exact Nat.mod_eq_of_lt (by omega)
    have a2 : (UInt32.ofNat s).toNat = s := by
      rw [UInt32.toNat_ofNat']
      exact Nat.mod_eq_of_lt (by omega)
    rw [UInt32.toNat_shiftRight, a1, a2, UInt32.toNat_ofNat', Nat.mod_eq_of_lt hs]
    refine (Nat.mod_eq_of_lt ?_).symm
    rw [Nat.shiftRight_eq_div_pow]
    exact Nat.lt_of_le_of_lt (Nat.div_le_self _ _) (by omega)
  rw [e2]; rfl
theorem and_split (x y w : Nat) : x &&& y = 2 ^ w * ((x / 2 ^ w) &&& (y / 2 ^ w)) + ((x % 2 ^ w) &&& (y % 2 ^ w)) := by
  have h : ((x % 2 ^ w) &&& (y % 2 ^ w)) < 2 ^ w := Nat.lt_of_le_of_lt Nat.and_le_left (Nat.mod_lt _ (Nat.two_pow_pos _))
  apply Nat.eq_of_testBit_eq
  intro i
  rw [Nat.testBit_two_pow_mul_add _ h, Nat.testBit_and]
  by_cases c : i < w
  · rw [if_pos c, Nat.testBit_and, Nat.testBit_mod_two_pow, Nat.testBit_mod_two_pow, decide_eq_true c, Bool.true_and, Bool.true_and]
  · rw [if_neg c, Nat.testBit_and, Nat.testBit_div_two_pow, Nat.testBit_div_two_pow, show i - w + w = i from by omega]
/-- byte by byte -/
theorem and3 (x m : Nat) (hx : x < 16777216) (hm : m < 256) : x &&& (m + 256 * m + 65536 * m + 16777216 * m) = (x % 256 &&& m) + 256 * (x / 256 % 256 &&& m) + 65536 * (x / 65536 &&& m) := by
  rw [and_split x _ 8, and_split (x / 2 ^ 8) _ 8, and_split (x / 2 ^ 8 / 2 ^ 8) _ 8]
  have e1 : (m + 256 * m + 65536 * m + 16777216 * m) % 2 ^ 8 = m := by omega
  have e2 : (m + 256 * m + 65536 * m + 16777216 * m) / 2 ^ 8 % 2 ^ 8 = m := by omega
  have e3 : (m + 256 * m + 65536 * m + 16777216 * m) / 2 ^ 8 / 2 ^ 8 % 2 ^ 8 = m := by omega
  have e4 : x / 2 ^ 8 / 2 ^ 8 / 2 ^ 8 = 0 := by omega
  have e5 : x / 2 ^ 8 / 2 ^ 8 % 2 ^ 8 = x / 65536 := by omega
  rw [e1, e2, e3, e4, e5, Nat.zero_and, Nat.mul_zero, Nat.zero_add]
  have e6 : x / 2 ^ 8 % 2 ^ 8 = x / 256 % 256 := rfl
  have e7 : x % 2 ^ 8 = x % 256 := rfl
  rw [e6, e7]
  generalize (x % 256 &&& m) = A
  generalize (x / 256 % 256 &&& m) = B
  generalize (x / 65536 &&& m) = C
  omega
def by1 (a : Nat) : Nat := a - (a / 2 &&& 85)
def by2 (a : Nat) : Nat := (by1 a &&& 51) + (by1 a / 4 &&& 51)
set_option maxRecDepth 100000 in
theorem by_facts : ∀ a, a < 256 → (a / 2 &&& 85) ≤ a ∧ by1 a < 256 ∧ by2 a % 16 ≤ 4 ∧ by2 a / 16 ≤ 4 ∧ by2 a % 16 + by2 a / 16 = pcn a 8 ∧ (a &&& 85) = (a % 128 &&& 85) ∧ (a &&& 51) = (a % 64 &&& 51) ∧ (a &&& 15) = a % 16 := by decide +kernel
def bcN (x : Nat) : Nat :=
  let i1 := x - (x >>> 1 &&& 1431655765)
  let i2 := (i1 &&& 858993459) + (i1 >>> 2 &&& 858993459)
  let i3 := (i2 + i2 >>> 4) &&& 252645135
  let i4 := i3 + i3 >>> 8
  let i5 := i4 + i4 >>> 16
  i5 &&& 63
theorem pcn_split (x : Nat) : ∀ i j, pcn x (i + j) = pcn x i + pcn (x / 2 ^ i) j
  | i, 0 => rfl
  | i, j + 1 => by
    have ih := pcn_split x i j
    show pcn x ((i + j) + 1) = _
    simp only [pcn]
    rw [ih, Nat.testBit_div_two_pow, show j + i = i + j from Nat.add_comm _ _]
    omega
theorem pcn_mod (x n : Nat) : ∀ i, i ≤ n → pcn (x % 2 ^ n) i = pcn x i
  | 0, _ => rfl
  | i + 1, h => by
    simp only [pcn]
    rw [pcn_mod x n i (by omega), Nat.testBit_mod_two_pow, decide_eq_true (show i < n by omega), Bool.true_and]
theorem nib {a0 a1 b0 b1 c0 c1 : Nat} (h1 : a0 ≤ 4) (h2 : a1 ≤ 4) (h3 : b0 ≤ 4) (h4 : b1 ≤ 4) (h5 : c0 ≤ 4) (h6 : c1 ≤ 4) {z : Nat} (hz : z = (a0 + 16 * a1) + 256 * (b0 + 16 * b1) + 65536 * (c0 + 16 * c1)) : (z + z / 16) % 256 % 16 + 256 * ((z + z / 16) / 256 % 256 % 16) + 65536 * ((z + z / 16) / 65536 % 16) = (a0 + a1) + 256 * (b0 + b1) + 65536 * (c0 + c1) := by
  have e1 : z / 16 = a1 + 16 * b0 + 256 * b1 + 4096 * c0 + 65536 * c1 := by omega
  have e2 : z + z / 16 = (a0 + a1) + 16 * (a1 + b0) + 256 * (b0 + b1) + 4096 * (b1 + c0) + 65536 * (c0 + c1) + 1048576 * c1 := by omega
  rw [e2]
  clear e1 e2 hz
  have g1 : a0 + a1 ≤ 8 := by omega
  have g2 : a1 + b0 ≤ 8 := by omega
  have g3 : b0 + b1 ≤ 8 := by omega
  have g4 : b1 + c0 ≤ 8 := by omega
  have g5 : c0 + c1 ≤ 8 := by omega
  generalize a0 + a1 = s0 at *
  generalize a1 + b0 = t0 at *
  generalize b0 + b1 = s1 at *
  generalize b1 + c0 = t1 at *
  generalize c0 + c1 = s2 at *
  clear h1 h2 h3 h4 h5
  have q1 : (s0 + 16 * t0 + 256 * s1 + 4096 * t1 + 65536 * s2 + 1048576 * c1) % 256 = s0 + 16 * t0 := by omega
  have q2 : (s0 + 16 * t0 + 256 * s1 + 4096 * t1 + 65536 * s2 + 1048576 * c1) / 256 = s1 + 16 * t1 + 256 * (s2 + 16 * c1) := by omega
  have q3 : (s0 + 16 * t0 + 256 * s1 + 4096 * t1 + 65536 * s2 + 1048576 * c1) / 65536 = s2 + 16 * c1 := by omega
  have q4 : (s1 + 16 * t1 + 256 * (s2 + 16 * c1)) % 256 = s1 + 16 * t1 := by omega
  rw [q1, q2, q3, q4, Nat.add_mul_mod_self_left, Nat.add_mul_mod_self_left, Nat.add_mul_mod_self_left, Nat.mod_eq_of_lt (by omega), Nat.mod_eq_of_lt (by omega), Nat.mod_eq_of_lt (by omega)]
theorem lastb {p q r : Nat} (h1 : p ≤ 8) (h2 : q ≤ 8) (h3 : r ≤ 8) : (p + 256 * q + 65536 * r + (p + 256 * q + 65536 * r) / 2 ^ 8 + (p + 256 * q + 65536 * r + (p + 256 * q + 65536 * r) / 2 ^ 8) / 2 ^ 16) % 2 ^ 6 = p + q + r := by
  have e1 : (p + 256 * q + 65536 * r) / 2 ^ 8 = q + 256 * r := by omega
  rw [e1]
  have e2 : (p + 256 * q + 65536 * r + (q + 256 * r)) / 2 ^ 16 = r := by omega
  rw [e2]
  omega
theorem bcN_eq {x : Nat} (hx : x < 16777216) : bcN x = pcn x 24 := by
  have ha := by_facts (x % 256) (Nat.mod_lt _ (by decide))
  have hb := by_facts (x / 256 % 256) (Nat.mod_lt _ (by decide))
  have hc := by_facts (x / 65536) (by omega)
  obtain ⟨a1, a2, a3, a4, a5, _, _, _⟩ := ha
  obtain ⟨b1, b2, b3, b4, b5, _, _, _⟩ := hb
  obtain ⟨c1, c2, c3, c4, c5, _, _, _⟩ := hc
  -- the bits in pairs
  have s1 : x - (x >>> 1 &&& 1431655765) = by1 (x % 256) + 256 * by1 (x / 256 % 256) + 65536 * by1 (x / 65536) := by
    rw [Nat.shiftRight_eq_div_pow, and3 (x / 2 ^ 1) 85 (by omega) (by decide)]
    have e1 := (by_facts (x / 2 ^ 1 % 256) (Nat.mod_lt _ (by decide))).2.2.2.2.2.1
    have e2 := (by_facts (x / 2 ^ 1 / 256 % 256) (Nat.mod_lt _ (by decide))).2.2.2.2.2.1
    have f1 : x / 2 ^ 1 % 256 % 128 = x % 256 / 2 := by omega
    have f2 : x / 2 ^ 1 / 256 % 256 % 128 = x / 256 % 256 / 2 := by omega
    have f3 : x / 2 ^ 1 / 65536 = x / 65536 / 2 := by omega
    rw [e1, e2, f1, f2, f3]
    unfold by1
    generalize (x % 256 / 2 &&& 85) = A at *
    generalize (x / 256 % 256 / 2 &&& 85) = B at *
    generalize (x / 65536 / 2 &&& 85) = C at *
    omega
  -- by fours
  have s2 : ∀ y, y = by1 (x % 256) + 256 * by1 (x / 256 % 256) + 65536 * by1 (x / 65536) → (y &&& 858993459) + (y >>> 2 &&& 858993459) = by2 (x % 256) + 256 * by2 (x / 256 % 256) + 65536 * by2 (x / 65536) := by
    intro y hy
    have hy24 : y < 16777216 := by omega
    rw [Nat.shiftRight_eq_div_pow, and3 y 51 hy24 (by decide), and3 (y / 2 ^ 2) 51 (by omega) (by decide)]
    have g1 : y % 256 = by1 (x % 256) := by omega
    have g2 : y / 256 % 256 = by1 (x / 256 % 256) := by omega
    have g3 : y / 65536 = by1 (x / 65536) := by omega
    have e1 := (by_facts (y / 2 ^ 2 % 256) (Nat.mod_lt _ (by decide))).2.2.2.2.2.2.1
    have e2 := (by_facts (y / 2 ^ 2 / 256 % 256) (Nat.mod_lt _ (by decide))).2.2.2.2.2.2.1
    have f1 : y / 2 ^ 2 % 256 % 64 = by1 (x % 256) / 4 := by omega
    have f2 : y / 2 ^ 2 / 256 % 256 % 64 = by1 (x / 256 % 256) / 4 := by omega
    have f3 : y / 2 ^ 2 / 65536 = by1 (x / 65536) / 4 := by omega
    rw [g1, g2, g3, e1, e2, f1, f2, f3]
    unfold by2
    omega
  unfold bcN
  simp only
  rw [s2 _ s1]
  have hz : by2 (x % 256) + 256 * by2 (x / 256 % 256) + 65536 * by2 (x / 65536) < 16777216 := by omega
  generalize hzz : by2 (x % 256) + 256 * by2 (x / 256 % 256) + 65536 * by2 (x / 65536) = zz at *
  have s3 : (zz + zz >>> 4) &&& 252645135 = pcn (x % 256) 8 + 256 * pcn (x / 256 % 256) 8 + 65536 * pcn (x / 65536) 8 := by
    rw [Nat.shiftRight_eq_div_pow, and3 (zz + zz / 2 ^ 4) 15 (by omega) (by decide)]
    have e1 := (by_facts ((zz + zz / 2 ^ 4) % 256) (Nat.mod_lt _ (by decide))).2.2.2.2.2.2.2
    have e2 := (by_facts ((zz + zz / 2 ^ 4) / 256 % 256) (Nat.mod_lt _ (by decide))).2.2.2.2.2.2.2
    have e3 := (by_facts ((zz + zz / 2 ^ 4) / 65536) (by omega)).2.2.2.2.2.2.2
    rw [e1, e2, e3, ← a5, ← b5, ← c5]
    exact nib a3 a4 b3 b4 c3 c4 (by rw [← hzz]; clear s1 s2; omega)
  rw [s3]
  have p1 := pcn_le (x % 256) 8
  have p2 := pcn_le (x / 256 % 256) 8
  have p3 := pcn_le (x / 65536) 8
  have q1 := pcn_split x 8 16
  have q2 := pcn_split (x / 2 ^ 8) 8 8
  have q3 := pcn_mod x 8 8 (Nat.le_refl _)
  have q4 := pcn_mod (x / 2 ^ 8) 8 8 (Nat.le_refl _)
  have r1 : x / 2 ^ 8 / 2 ^ 8 = x / 65536 := by omega
  rw [r1] at q2
  have e24 : pcn x 24 = pcn (x % 256) 8 + pcn (x / 256 % 256) 8 + pcn (x / 65536) 8 := by
    rw [show (24 : Nat) = 8 + 16 from rfl, q1, show (16 : Nat) = 8 + 8 from rfl, q2, ← q3, ← q4]
    show pcn (x % 256) 8 + (pcn (x / 256 % 256) 8 + _) = _
    omega
  rw [e24, Nat.shiftRight_eq_div_pow, Nat.shiftRight_eq_div_pow, show (63 : Nat) = 2 ^ 6 - 1 from rfl, Nat.and_two_pow_sub_one_eq_mod]
  exact lastb p1 p2 p3
theorem f_bitCount24 {I : xI} {L : xL} {x : Nat} (hx : x < 16777216) : f_J6_bitCount_0f7a4 I L (Int32.ofNat x) = Int32.ofNat (pcn x 24) := by
  rw [← bcN_eq hx]
  unfold f_J6_bitCount_0f7a4 bcN
  simp only
  rw [show (1 : Int32) = Int32.ofNat 1 from rfl, show (31 : Int32) = Int32.ofNat 31 from rfl, show (2 : Int32) = Int32.ofNat 2 from rfl, show (4 : Int32) = Int32.ofNat 4 from rfl, show (8 : Int32) = Int32.ofNat 8 from rfl, show (16 : Int32) = Int32.ofNat 16 from rfl, show (63 : Int32) = Int32.ofNat 63 from rfl, show (1431655765 : Int32) = Int32.ofNat 1431655765 from rfl, show (858993459 : Int32) = Int32.ofNat 858993459 from rfl, show (252645135 : Int32) = Int32.ofNat 252645135 from rfl]
  have u1 : (x >>> 1 &&& 1431655765) ≤ x := Nat.le_trans Nat.and_le_left (by rw [Nat.shiftRight_eq_div_pow]; exact Nat.div_le_self _ _)
  rw [xv_ushr (by omega) (by decide), xv_and, xv_sub u1]
  generalize hi1 : x - (x >>> 1 &&& 1431655765) = i1
  have b1 : i1 < 16777216 := by omega
  have v1 : (i1 &&& 858993459) ≤ i1 := Nat.and_le_left
  have v2 : (i1 >>> 2 &&& 858993459) ≤ i1 := Nat.le_trans Nat.and_le_left (by rw [Nat.shiftRight_eq_div_pow]; exact Nat.div_le_self _ _)
  rw [xv_ushr (by omega) (by decide), xv_and, xv_and, xv_add]
  generalize hi2 : (i1 &&& 858993459) + (i1 >>> 2 &&& 858993459) = i2
  have b2 : i2 < 33554432 := by omega
  rw [xv_ushr (by omega) (by decide), xv_add, xv_and]
  generalize hi3 : (i2 + i2 >>> 4) &&& 252645135 = i3
  have b3 : i3 ≤ 252645135 := by rw [← hi3]; exact Nat.and_le_right
  rw [xv_ushr (by omega) (by decide), xv_add]
  have v4 : i3 >>> 8 ≤ i3 := by rw [Nat.shiftRight_eq_div_pow]; exact Nat.div_le_self _ _
  rw [xv_ushr (by omega) (by decide), xv_add, xv_and]
