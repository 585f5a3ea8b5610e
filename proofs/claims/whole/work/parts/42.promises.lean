theorem xp_hasPlace {I : xI} {L : xL} {a : Int32} {n : Nat} (hn : I 10 0 = Int32.ofNat n) (h6 : n ≤ 6) : p_X6_hasPlace I L a ↔ (0 ≤ a.toInt ∧ a.toInt < (n : Int)) := by
  have e0 : (0 : Int32).toInt = 0 := rfl
  have e6 : (6 : Int32).toInt = 6 := rfl
  show (¬ a < 0 ∧ (a < I 10 0 ∧ a < 6)) ↔ _
  rw [hn]
  simp only [Int32.lt_iff_toInt_lt, xv_int (show n < 2147483648 by omega), e0, e6]
  omega
theorem xp_isPlace {I : xI} {L : xL} {a : Int32} {n : Nat} (hn : I 66 9 = Int32.ofNat n) (h2 : 2 ≤ n) (h6 : n ≤ 6) : p_X9_isPlace I L (Int32.toInt64 a) ↔ (0 ≤ a.toInt ∧ a.toInt < (n : Int)) := by
  have e : Int32.toInt64 (Int32.ofNat n - 1) = Int64.ofNat (n - 1) := by
    have hk : n = 2 ∨ n = 3 ∨ n = 4 ∨ n = 5 ∨ n = 6 := by omega
    obtain rfl | rfl | rfl | rfl | rfl := hk <;> rfl
  show p_X9_in I L (Int32.toInt64 a) (Int64.ofNat 0) (Int32.toInt64 (I 66 9 - 1)) ↔ _
  rw [hn, e, xp_in (by decide) (by omega)]
  omega
theorem xv_nn {a : Int32} (h : 0 ≤ a.toInt) : ¬ a < 0 := by
  rw [Int32.lt_iff_toInt_lt]
  have e0 : (0 : Int32).toInt = 0 := rfl
  omega
theorem pr_stands (a1 : Int32) : xPr 5 172 292 [.int a1] := by
  intro A I L z h
  have hn : I 10 0 = Int32.ofNat (ab_n A) := h.2.1.1.1
  have hm : I 66 9 = Int32.ofNat (ab_n A) := h.2.2.1.1.1
  refine xupD (c_X8_stands ?_) (by decide)
  by_cases hp : 0 ≤ a1.toInt ∧ a1.toInt < (ab_n A : Int)
  · rw [if_pos ((xp_hasPlace hn h.1.1.2).mpr hp)]
    refine xupD (c_X9_stands ?_) (by decide)
    have h0 : ¬ a1 < 0 := xv_nn hp.1
    obtain ⟨v, hv, rfl⟩ := xv_of h0
    have hv6 : v < 6 := by
      have q := hp.2
      rw [xv_int hv] at q
      have := h.1.1.2
      omega
    rw [if_pos ((xp_isPlace hm h.1.1.1 h.1.1.2).mpr hp), if_pos ((xv_in hv).mpr hv6), xv_clamp hv]
    refine ⟨?_, A, I, L, z, rfl, h⟩
    have e : f_X6_truthAt I L (Int32.ofNat v) = I 12 v := by
      unfold f_X6_truthAt
      rw [if_neg h0, if_pos (show Int32.ofNat v < 6 from (xv_lt hv (by decide)).mpr hv6), if_pos ((xv_in hv).mpr hv6), xv_clamp hv]
    have s1 : I 12 v = Int32.ofNat (ab_stood A v) := h.2.1.2.2.1 v hv6
    have s2 : I 84 v = Int32.ofNat (ab_stood A v) := h.2.2.1.2.2.1 v (by have q := hp.2; rw [xv_int hv] at q; omega)
    rw [e, s1, s2]
  · rw [if_neg (fun q => hp ((xp_hasPlace hn h.1.1.2).mp q))]
    refine xupD (c_X9_stands ?_) (by decide)
    rw [if_neg (fun q => hp ((xp_isPlace (show xrfu I (-2 : Int32) 66 9 = _ by
      rw [show xrfu I (-2 : Int32) = xw I 65 0 (I 65 0 + 1) from xrfu_at (k := 2) (by decide) (by decide), xw_ne1 (by decide)]
      exact hm) h.1.1.1 h.1.1.2).mp q))]
    exact ⟨rfl, A, _, _, _, rfl, xBoth_refuse (k := 2) (by decide) (by decide) h⟩
theorem pr_feed (a1 : Int32) : xPr 5 148 220 [.int a1] := by
  intro A I L z h
  have e0 : (0 : Int32).toInt = 0 := rfl
  have e255 : (255 : Int32).toInt = 255 := rfl
  refine xupD (c_X8_feed ?_) (by decide)
  by_cases h1 : a1 < 0
  · rw [if_pos h1]
    refine xupD (c_X9_feed ?_) (by decide)
    rw [if_neg (fun q => by
      have q := (xp_in (by decide) (by decide)).mp q
      rw [Int32.lt_iff_toInt_lt] at h1
      omega)]
    exact ⟨rfl, A, _, _, _, rfl, xBoth_refuse (k := 2) (by decide) (by decide) h⟩
  · by_cases h2 : 255 < a1
    · rw [if_neg h1, if_pos h2]
      refine xupD (c_X9_feed ?_) (by decide)
      rw [if_neg (fun q => by
        have q := (xp_in (by decide) (by decide)).mp q
        rw [Int32.lt_iff_toInt_lt] at h2
        omega)]
      exact ⟨rfl, A, _, _, _, rfl, xBoth_refuse (k := 2) (by decide) (by decide) h⟩
    · rw [if_neg h1, if_neg h2]
      obtain ⟨v, hv, rfl⟩ := xv_of h1
      have hv2 : v < 256 := by
        rw [Int32.lt_iff_toInt_lt, xv_int hv] at h2
        omega
      obtain ⟨n, n1, n2, n3, n4⟩ := h.2.2.2.2.2.1
      have hns : n < 2147483648 := by omega
      rw [if_neg (show ¬ I 61 0 < 0 by rw [n2]; exact xv_neg hns)]
      by_cases hn : n < 250
      · rw [if_pos (show I 61 0 < 250 by rw [n2]; exact (xv_lt hns (by decide)).mpr hn), if_pos (show xin (I 61 0) 250 by rw [n2]; exact (xv_in hns).mpr hn)]
        have s1 : xw (xw I 62 (Int32.toNatClampNeg (I 61 0)) (Int32.ofNat v)) 61 0 ((xw I 62 (Int32.toNatClampNeg (I 61 0)) (Int32.ofNat v)) 61 0 + 1) = xw (xw I 62 n (Int32.ofNat v)) 61 0 (Int32.ofNat (n + 1)) := by
          rw [xw_ne1 (o := 62) (o' := 61) (by decide), n2, xv_clamp hns, show Int32.ofNat n + 1 = Int32.ofNat (n + 1) from xv_add n 1]
        rw [s1]
        refine xupD (c_X9_feed ?_) (by decide)
        have m1 : xw (xw I 62 n (Int32.ofNat v)) 61 0 (Int32.ofNat (n + 1)) 66 7 = Int32.ofNat n := by
          rw [xw_ne1 (by decide), xw_ne1 (by decide)]; exact n3
        have x1 : xw (xw I 62 n (Int32.ofNat v)) 61 0 (Int32.ofNat (n + 1)) 61 0 = Int32.ofNat (n + 1) := xw_eq _ _ _ _
        have fr : ∀ o, o ≠ 61 → o ≠ 62 → ∀ k, xw (xw I 62 n (Int32.ofNat v)) 61 0 (Int32.ofNat (n + 1)) o k = I o k := fun o a b k => by rw [xw_ne1 a, xw_ne1 b]
        have ti : ∀ k, xw (xw I 62 n (Int32.ofNat v)) 61 0 (Int32.ofNat (n + 1)) 62 k = if k = n then Int32.ofNat v else I 62 k := by
          intro k
          rw [xw_ne1 (by decide)]
          by_cases q : k = n
          · rw [if_pos q, q, xw_eq]
          · rw [if_neg q, xw_ne2 q]
        generalize xw (xw I 62 n (Int32.ofNat v)) 61 0 (Int32.ofNat (n + 1)) = J at m1 x1 fr ti ⊢
        rw [if_pos ((xp_in (by decide) (by decide)).mpr (by rw [xv_int hv]; omega)), if_neg (by rw [m1]; exact fun q => by have := (xv_eq hns (show 250 < 2147483648 by decide)).mp q; omega), if_pos (show xin (J 66 7) 250 by rw [m1]; exact (xv_in hns).mpr hn)]
        rw [m1, xv_clamp hns, show Int32.ofNat n + 1 = Int32.ofNat (n + 1) from xv_add n 1]
        refine ⟨?_, A, _, _, _, rfl, ?_⟩
        · rw [xw_ne1 (by decide), xw_eq, x1]
        · obtain ⟨q0, q1, q2, q3, q4, q5, q6, q7⟩ := h
          refine ⟨q0, ?_, ?_, ?_, ?_, ?_, ?_, ?_⟩
          · exact xTX_congr (fun o a b k => by rw [xw_ne1 (by omega), xw_ne1 (by omega), fr o (by omega) (by omega)]) q1
          · exact xTM_congr (by rw [xw_ne1 (by decide), xw_ne2 (by decide), fr _ (by decide) (by decide)]) (by rw [xw_ne1 (by decide), xw_ne2 (by decide), fr _ (by decide) (by decide)]) (by rw [xw_ne1 (by decide), xw_ne2 (by decide), fr _ (by decide) (by decide)]) (by rw [xw_ne1 (by decide), xw_ne2 (by decide), fr _ (by decide) (by decide)]) (fun o a b k => by rw [xw_ne1 (by omega), xw_ne1 (by omega), fr o (by omega) (by omega)]) q2
          · intro s hs
            have e := q3 s hs
            unfold xShM at e ⊢
            have fr2 : ∀ o, o ≠ 61 → o ≠ 62 → o ≠ 66 → o ≠ 81 → ∀ k, xw (xw J 66 7 (Int32.ofNat (n + 1))) 81 n (Int32.ofNat v) o k = I o k := fun o a b c d k => by rw [xw_ne1 d, xw_ne1 c, fr o a b]
            rw [fr2 58 (by decide) (by decide) (by decide) (by decide), fr2 59 (by decide) (by decide) (by decide) (by decide), fr2 67 (by decide) (by decide) (by decide) (by decide), fr2 68 (by decide) (by decide) (by decide) (by decide), fr2 69 (by decide) (by decide) (by decide) (by decide), fr2 80 (by decide) (by decide) (by decide) (by decide), fr2 10 (by decide) (by decide) (by decide) (by decide)]
            exact e
          · intro i hi
            rw [xw_ne1 (by decide), xw_ne1 (by decide), xw_ne1 (by decide), xw_ne1 (by decide), fr _ (by decide) (by decide), fr _ (by decide) (by decide)]
            exact q4 i hi
          · refine ⟨n + 1, hn, ?_, ?_, ?_⟩
            · rw [xw_ne1 (by decide), xw_ne1 (by decide)]; exact x1
            · rw [xw_ne1 (by decide), xw_eq]
            · intro i hi
              rw [xw_ne1 (o' := 62) (by decide), xw_ne1 (o' := 62) (by decide), ti]
              by_cases q : i = n
              · rw [if_pos q, q, xw_eq]
                exact ⟨rfl, v, hv2, rfl⟩
              · rw [if_neg q, xw_ne2 q, xw_ne1 (by decide), fr _ (by decide) (by decide)]
                exact n4 i (by omega)
          · rw [xw_ne1 (by decide), xw_ne1 (by decide), fr _ (by decide) (by decide)]; exact q6
          · intro hz
            obtain ⟨B, a, b, c⟩ := q7 hz
            exact ⟨B, a, xTX_congr (fun o a b k => by rw [xw_ne1 (by omega), xw_ne1 (by omega), fr o (by omega) (by omega)]) b, xTM_congr (by rw [xw_ne1 (by decide), xw_ne1 (by decide), fr _ (by decide) (by decide)]) (by rw [xw_ne1 (by decide), xw_ne1 (by decide), fr _ (by decide) (by decide)]) (by rw [xw_ne1 (by decide), xw_ne1 (by decide), fr _ (by decide) (by decide)]) (by rw [xw_ne1 (by decide), xw_ne1 (by decide), fr _ (by decide) (by decide)]) (fun o a b k => by rw [xw_ne1 (by omega), xw_ne1 (by omega), fr o (by omega) (by omega)]) c⟩
      · have hn250 : n = 250 := by omega
        subst hn250
        rw [if_neg (show ¬ I 61 0 < 250 by rw [n2]; decide)]
        refine xupD (c_X9_feed ?_) (by decide)
        rw [if_pos ((xp_in (by decide) (by decide)).mpr (by rw [xv_int hv]; omega)), if_pos (show xrfu I (-6 : Int32) 66 7 = 250 by
          rw [show xrfu I (-6 : Int32) = xw I 65 4 (I 65 4 + 1) from xrfu_at (k := 6) (by decide) (by decide), xw_ne1 (by decide), n3]; rfl)]
        exact ⟨rfl, A, _, _, _, rfl, xBoth_refuse (k := 6) (by decide) (by decide) h⟩
