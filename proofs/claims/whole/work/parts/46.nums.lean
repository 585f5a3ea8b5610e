/-! small numbers in Int32, for a rewriter: literals, bits, division -/
theorem xl_0 : (0 : Int32) = Int32.ofNat 0 := rfl
theorem xl_1 : (1 : Int32) = Int32.ofNat 1 := rfl
theorem xl_2 : (2 : Int32) = Int32.ofNat 2 := rfl
theorem xl_3 : (3 : Int32) = Int32.ofNat 3 := rfl
theorem xl_4 : (4 : Int32) = Int32.ofNat 4 := rfl
theorem xl_5 : (5 : Int32) = Int32.ofNat 5 := rfl
theorem xl_6 : (6 : Int32) = Int32.ofNat 6 := rfl
theorem xl_7 : (7 : Int32) = Int32.ofNat 7 := rfl
theorem xl_8 : (8 : Int32) = Int32.ofNat 8 := rfl
theorem xl_9 : (9 : Int32) = Int32.ofNat 9 := rfl
theorem xl_10 : (10 : Int32) = Int32.ofNat 10 := rfl
theorem xl_15 : (15 : Int32) = Int32.ofNat 15 := rfl
theorem xl_18 : (18 : Int32) = Int32.ofNat 18 := rfl
theorem xl_24 : (24 : Int32) = Int32.ofNat 24 := rfl
theorem xl_31 : (31 : Int32) = Int32.ofNat 31 := rfl
theorem xl_32 : (32 : Int32) = Int32.ofNat 32 := rfl
theorem xl_36 : (36 : Int32) = Int32.ofNat 36 := rfl
theorem xl_40 : (40 : Int32) = Int32.ofNat 40 := rfl
theorem xl_48 : (48 : Int32) = Int32.ofNat 48 := rfl
theorem xl_63 : (63 : Int32) = Int32.ofNat 63 := rfl
theorem xl_64 : (64 : Int32) = Int32.ofNat 64 := rfl
theorem xl_144 : (144 : Int32) = Int32.ofNat 144 := rfl
theorem xl_250 : (250 : Int32) = Int32.ofNat 250 := rfl
theorem xl_320 : (320 : Int32) = Int32.ofNat 320 := rfl
theorem xl_720 : (720 : Int32) = Int32.ofNat 720 := rfl
theorem xl_721 : (721 : Int32) = Int32.ofNat 721 := rfl
theorem xl_1000 : (1000 : Int32) = Int32.ofNat 1000 := rfl
theorem xl_1023 : (1023 : Int32) = Int32.ofNat 1023 := rfl
theorem xl_1024 : (1024 : Int32) = Int32.ofNat 1024 := rfl
theorem xv_sub {a b : Nat} (h : b ≤ a) : Int32.ofNat a - Int32.ofNat b = Int32.ofNat (a - b) := (Int32.ofNat_sub a b h).symm
theorem xv_dec {a b : Nat} (h : b ≤ a) : Int32.ofNat a + -(Int32.ofNat b) = Int32.ofNat (a - b) := by
  rw [← xv_sub h]; exact (Int32.sub_eq_add_neg _ _).symm
theorem xv_div {a b : Nat} (ha : a < 2147483648) (hb : b < 2147483648) : Int32.ofNat a / Int32.ofNat b = Int32.ofNat (a / b) := (Int32.ofNat_div ha hb).symm
theorem xv_mod {a b : Nat} : Int32.ofNat a - Int32.ofNat (a / b * b) = Int32.ofNat (a % b) := by
  rw [xv_sub (Nat.div_mul_le_self a b)]
  have := Nat.div_add_mod a b
  rw [Nat.mul_comm] at this
  congr 1
  omega
theorem xv_m1 {a b : Nat} (ha : a < 2147483648) (hb : b < 2147483648) (h0 : 0 < b) : (Int32.ofNat a = -(Int32.ofNat b)) = False := by
  refine eq_false fun h => ?_
  have q := congrArg Int32.toInt h
  have n1 : (-(Int32.ofNat b)).toInt = -(b : Int) := by
    rw [Int32.neg_ofNat]
    exact Int32.toInt_ofInt_of_le (by show -(2147483648 : Int) ≤ _; omega) (by show _ < (2147483648 : Int); omega)
  rw [xv_int ha, n1] at q
  omega
theorem xv_m1' {a b : Nat} (ha : a < 2147483648) (hb : b < 2147483648) (h0 : 0 < b) : (-(Int32.ofNat b) = Int32.ofNat a) = False := by
  rw [← xv_m1 ha hb h0]; exact propext ⟨Eq.symm, Eq.symm⟩
theorem xv_bv (a : Nat) : (Int32.ofNat a).toBitVec = BitVec.ofNat 32 a := rfl
theorem xv_and (a b : Nat) : Int32.ofNat a &&& Int32.ofNat b = Int32.ofNat (a &&& b) := by
  apply Int32.toBitVec_inj.1
  rw [Int32.toBitVec_and]
  simp only [xv_bv]
  exact BitVec.ofNat_and.symm
theorem xv_or (a b : Nat) : Int32.ofNat a ||| Int32.ofNat b = Int32.ofNat (a ||| b) := by
  apply Int32.toBitVec_inj.1
  rw [Int32.toBitVec_or]
  simp only [xv_bv]
  exact BitVec.ofNat_or.symm
theorem xv_sm : ∀ s, s < 32 → ((BitVec.ofNat 32 (s &&& 31)).smod 32) = BitVec.ofNat 32 s := by decide
theorem xv_shl {a s : Nat} (hs : s < 32) : Int32.ofNat a <<< Int32.ofNat (s &&& 31) = Int32.ofNat (a * 2 ^ s) := by
  apply Int32.toBitVec_inj.1
  show (BitVec.ofNat 32 a) <<< ((BitVec.ofNat 32 (s &&& 31)).smod 32) = BitVec.ofNat 32 (a * 2 ^ s)
  rw [xv_sm s hs, BitVec.shiftLeft_eq', BitVec.toNat_ofNat, Nat.mod_eq_of_lt (by omega)]
  apply BitVec.eq_of_toNat_eq
  rw [BitVec.toNat_shiftLeft, BitVec.toNat_ofNat, BitVec.toNat_ofNat, Nat.shiftLeft_eq, Nat.mod_mul_mod]
theorem xv_shr {a s : Nat} (ha : a < 2147483648) (hs : s < 32) : Int32.ofNat a >>> Int32.ofNat (s &&& 31) = Int32.ofNat (a >>> s) := by
  apply Int32.toBitVec_inj.1
  show BitVec.sshiftRight' (BitVec.ofNat 32 a) ((BitVec.ofNat 32 (s &&& 31)).smod 32) = BitVec.ofNat 32 (a >>> s)
  have hm : (BitVec.ofNat 32 a).msb = false := by
    rw [BitVec.msb_eq_false_iff_two_mul_lt, BitVec.toNat_ofNat]; omega
  rw [xv_sm s hs]
  apply BitVec.eq_of_toNat_eq
  rw [BitVec.toNat_sshiftRight'_of_msb_false hm, BitVec.toNat_ofNat, BitVec.toNat_ofNat, BitVec.toNat_ofNat, Nat.mod_eq_of_lt (show a < 2 ^ 32 by omega), Nat.mod_eq_of_lt (show s < 2 ^ 32 by omega)]
  exact (Nat.mod_eq_of_lt (Nat.lt_of_le_of_lt (by rw [Nat.shiftRight_eq_div_pow]; exact Nat.div_le_self _ _) (show a < 2 ^ 32 by omega))).symm
theorem xv_bit0 {u s : Nat} : (Int32.ofNat (u >>> s &&& 1) = Int32.ofNat 0) ↔ u.testBit s = false := by
  have h : u >>> s &&& 1 < 2 := by rw [Nat.and_one_is_mod]; omega
  rw [xv_eq (by omega) (by omega), Nat.and_comm]
  unfold Nat.testBit
  simp
theorem xv_bit1 {u s : Nat} : (Int32.ofNat (u >>> s &&& 1) = Int32.ofNat 1) ↔ u.testBit s = true := by
  have h : u >>> s &&& 1 < 2 := by rw [Nat.and_one_is_mod]; omega
  rw [xv_eq (by omega) (by omega)]
  have := @xv_bit0 u s
  rw [xv_eq (by omega) (by omega)] at this
  cases e : u.testBit s
  · rw [e] at this
    have := this.mpr rfl
    simp [this]
  · rw [e] at this
    have q : ¬ (u >>> s &&& 1 = 0) := fun x => by have := this.mp x; exact absurd this (by decide)
    exact ⟨fun _ => rfl, fun _ => by omega⟩
