theorem xv_less1 : ∀ n, n < 41 → (Int32.toInt64 (Int32.ofNat n - 1)).toInt = (n : Int) - 1 := by decide
theorem pr_element (a1 a2 : Int32) : xPr 5 136 198 [.int a1, .int a2] := by
  intro A I L z h
  have e0 : (0 : Int32).toInt = 0 := rfl
  have e8 : (8 : Int32).toInt = 8 := rfl
  have e40 : (40 : Int32).toInt = 40 := rfl
  have e5 : (5 : Int32).toInt = 5 := rfl
  have f0 : (Int64.ofNat 0).toInt = 0 := rfl
  refine xupD (c_X8_element ?_) (by decide)
  by_cases hp : 0 ≤ a1.toInt ∧ a1.toInt ≤ 7
  · obtain ⟨v, hv, rfl⟩ := xv_of (xv_nn hp.1)
    have h8 : v < 8 := by
      have q := hp.2
      rw [xv_int hv] at q
      omega
    have hi : xin (Int32.ofNat v) 8 := (xv_in hv).mpr h8
    have E : p_X2_hasElement I L (Int32.ofNat v) a2 ↔ (¬ I 58 v < 0 ∧ I 58 v < 5 ∧ ¬ a2 < 0 ∧ a2 < I 59 v ∧ a2 < 40) := by
      show ((¬ Int32.ofNat v < 0 ∧ (Int32.ofNat v < 8 ∧ (xin (Int32.ofNat v) 8 ∧ (¬ (I 58 (Int32.toNatClampNeg (Int32.ofNat v))) < 0 ∧ (xin (Int32.ofNat v) 8 ∧ (I 58 (Int32.toNatClampNeg (Int32.ofNat v))) < 5))))) ∧ (¬ a2 < 0 ∧ (xin (Int32.ofNat v) 8 ∧ (a2 < (I 59 (Int32.toNatClampNeg (Int32.ofNat v))) ∧ a2 < 40)))) ↔ _
      rw [xv_clamp hv]
      exact ⟨fun q => ⟨q.1.2.2.2.1, q.1.2.2.2.2.2, q.2.1, q.2.2.2.1, q.2.2.2.2⟩, fun q => ⟨⟨xv_neg hv, (xv_lt hv (show 8 < 2147483648 by decide)).mpr h8, hi, q.1, hi, q.2.1⟩, q.2.2.1, hi, q.2.2.2.1, q.2.2.2.2⟩⟩
    have M1 := (xp_in (I := I) (L := L) (a := Int32.ofNat v) (show 0 < 2147483648 by decide) (show 7 < 2147483648 by decide)).mpr (by rw [xv_int hv]; omega)
    rcases h.2.2.2.1 v h8 with ⟨g1, g2⟩ | ⟨s, n, b1, b2, g1, g2, g3, g4, g5, g6⟩ | ⟨t, b1, b2, g1, g2, g3⟩
    · rw [if_neg (fun q => (E.mp q).1 (by rw [g1]; decide))]
      refine xupD (c_X9_element ?_) (by decide)
      rw [if_pos M1]
      simp only [if_pos hi]
      rw [xv_clamp hv, if_neg (by rw [g2]; decide)]
      exact ⟨by first | rfl | trivial, A, I, L, z, rfl, h⟩
    · have hs : s < 2147483648 := by omega
      have hn : n < 2147483648 := by omega
      have N : p_X9_in I L (Int32.toInt64 a2) (Int64.ofNat 0) (Int32.toInt64 (I 69 v - 1)) ↔ (0 ≤ a2.toInt ∧ a2.toInt ≤ (n : Int) - 1) := by
        rw [xp_inG, g5, f0, xv_less1 n (by omega)]
      by_cases c : 0 ≤ a2.toInt ∧ a2.toInt < (n : Int)
      · obtain ⟨u, hu, rfl⟩ := xv_of (xv_nn c.1)
        have hun : u < n := by
          have q := c.2
          rw [xv_int hu] at q
          omega
        rw [if_pos (E.mpr ⟨by rw [g1]; exact xv_neg hs, by rw [g1]; exact (xv_lt hs (show 5 < 2147483648 by decide)).mpr b1, xv_neg hu, by rw [g2]; exact (xv_lt hu hn).mpr hun, (xv_lt hu (show 40 < 2147483648 by decide)).mpr (by omega)⟩)]
        have ix : Int32.ofNat v * 40 + Int32.ofNat u = Int32.ofNat (v * 40 + u) := by
          rw [show Int32.ofNat v * 40 = Int32.ofNat (v * 40) from xv_mul v 40, xv_add]
        rw [ix, if_pos ((xv_in (by omega)).mpr (by omega)), xv_clamp (by omega)]
        refine xupD (c_X9_element ?_) (by decide)
        rw [if_pos M1]
        simp only [if_pos hi]
        rw [xv_clamp hv, if_pos g3, if_pos (N.mpr (by rw [xv_int hu]; omega))]
        have k1 : xis (xS I L z) (70 + 1 + v) 21 = true := by
          have hk : v = 0 ∨ v = 1 ∨ v = 2 ∨ v = 3 ∨ v = 4 ∨ v = 5 ∨ v = 6 ∨ v = 7 := by omega
          obtain rfl | rfl | rfl | rfl | rfl | rfl | rfl | rfl := hk <;> rfl
        have k2 : xlen z.2.2 (70 + 1 + v) = 40 := by
          have hk : v = 0 ∨ v = 1 ∨ v = 2 ∨ v = 3 ∨ v = 4 ∨ v = 5 ∨ v = 6 ∨ v = 7 := by omega
          obtain rfl | rfl | rfl | rfl | rfl | rfl | rfl | rfl := hk <;> rfl
        refine xbifT k1 ?_
        rw [k2, if_pos ((xv_in hu).mpr (by omega)), xv_clamp hu]
        exact ⟨by rw [g6 u hun], A, I, L, z, rfl, h⟩
      · rw [if_neg (fun q => c (by
          obtain ⟨_, _, q1, q2, _⟩ := E.mp q
          rw [g2, Int32.lt_iff_toInt_lt, xv_int hn] at q2
          rw [Int32.lt_iff_toInt_lt] at q1
          omega))]
        refine xupD (c_X9_element ?_) (by decide)
        rw [if_pos M1]
        simp only [if_pos hi]
        rw [xv_clamp hv, if_pos g3, if_neg (fun q => c (by have := N.mp q; omega))]
        exact ⟨by first | rfl | trivial, A, I, L, z, rfl, h⟩
    · rw [if_neg (fun q => by
        have q2 := (E.mp q).2.1
        rw [g1, Int32.lt_iff_toInt_lt, xv_int (by omega)] at q2
        omega)]
      refine xupD (c_X9_element ?_) (by decide)
      rw [if_pos M1]
      simp only [if_pos hi]
      rw [xv_clamp hv, if_neg (by rw [g2]; decide)]
      exact ⟨by first | rfl | trivial, A, I, L, z, rfl, h⟩
  · rw [if_neg (fun q => hp (by
      have q1 := q.1.1
      have q2 := q.1.2.1
      rw [Int32.lt_iff_toInt_lt] at q1 q2
      omega))]
    refine xupD (c_X9_element ?_) (by decide)
    rw [if_neg (fun q => hp (by
      have q := (xp_in (by decide) (by decide)).mp q
      omega))]
    exact ⟨by first | rfl | trivial, A, I, L, z, rfl, h⟩
