/-! what was proved before the worlds: again, with all that stands -/
theorem xInv_w {c : Nat} {A : xAb} {I : xI} {L : xL} {z : Bool × Bool × Nat} (h : xInv c A I L z) : xInv (c + 1) A I L z := by
  obtain ⟨hb, hs, ha, hc, t, t1, t2⟩ := h
  exact ⟨hb, hs, ha, hc, t, by omega, t2⟩
/-- what stands but for the state -/
theorem xInv_to {c : Nat} {A B : xAb} {I J : xI} {L M : xL} {z y : Bool × Bool × Nat} (h : xInv c A I L z) (hb : xBoth B J M y) (hf : ∀ o, o = 1 ∨ o = 2 ∨ o = 44 ∨ o = 47 → ∀ k, J o k = I o k) (hc : xCache B J) : xInv (c + 1) B J M y := by
  obtain ⟨_, hs, ha, _, t, t1, t2⟩ := h
  have h' : xsm (fun o _ => ¬ (o = 1 ∨ o = 2 ∨ o = 44 ∨ o = 47)) I J := fun o k e => hf o (by omega) k
  exact ⟨hb, xShf_sm h' (fun k => by omega) hs, xAbv_sm h' (fun k => by omega) ha, hc, t, by omega, xTal_sm h' (fun o k e => by omega) t2⟩
theorem xInv_refuse {c : Nat} {A : xAb} {I : xI} {L : xL} {z : Bool × Bool × Nat} {k : Nat} (h1 : 2 ≤ k) (h2 : k ≤ 6) (h : xInv c A I L z) : xInv (c + 1) A (xRf I k) L z := by
  have g : ∀ o, o ≠ 65 → o ≠ 82 → ∀ j, xRf I k o j = I o j := by
    intro o a b j
    unfold xRf
    rw [xrfu_at h1 h2, xw_ne1 b, xw_ne1 a]
  refine xInv_to h (xBoth_refuse h1 h2 h.1) (fun o ho j => g o (by omega) (by omega) j) ?_
  exact xCache_sm (S := fun o _ => o = 65 ∨ o = 82) (fun o j e => g o (by omega) (by omega) j) (fun o k e => by unfold noC; omega) h.2.2.2.1
/-- the cells that say the worlds stand, but not the old -/
theorem xCache_fr {A B : xAb} {I J : xI} (h : xCache A I) (hW : aW B = aW A) (hP : aP B = aP A) (hn : ab_n B = ab_n A) (h5 : J 10 5 = I 10 5) (h6 : J 10 6 = I 10 6) (hf : ∀ o, 37 ≤ o ∧ o ≤ 40 → ∀ k, J o k = I o k) : xCache B J := by
  have hall : xAll A I → xAll B J := fun q => ⟨by rw [hf 37 (by omega), hW]; exact q.1, fun i hi => by rw [hf 38 (by omega), hW]; rw [hW] at hi; exact q.2 i hi⟩
  have hpos : xPos A I → xPos B J := fun q => ⟨by rw [hf 37 (by omega), hP]; exact q.1, fun i hi => by rw [hf 39 (by omega), hP]; rw [hP] at hi; exact q.2.1 i hi, fun p hp s hs => by
    rw [hf 40 (by omega), q.2.2 p hp s hs]
    unfold aSt
    rw [hn, hP]⟩
  rcases h with h | ⟨a, b, d⟩
  · exact Or.inl (h5.trans h)
  · refine Or.inr ⟨h5.trans a, hall b, ?_⟩
    rcases d with d | ⟨d, e⟩
    · exact Or.inl (h6.trans d)
    · exact Or.inr ⟨h6.trans d, hpos e⟩
theorem aTurn_eq {A B : xAb} (h1 : ab_n B = ab_n A) (h3 : ab_pour B = ab_pour A) : ∀ m, aTurn B m = aTurn A m
  | 0 => rfl
  | m + 1 => by
    have e : aRot B m = aRot A m := by
      funext p
      unfold aRot
      rw [h1, h3]
    show insW _ (aTurn B m) = insW _ (aTurn A m)
    rw [aTurn_eq h1 h3 m, e, h1]
theorem aW_eq {A B : xAb} (h1 : ab_n B = ab_n A) (h2 : ab_law B = ab_law A) (h3 : ab_pour B = ab_pour A) : aW B = aW A := by
  have e : aC B = aC A := by
    funext s
    unfold aC
    rw [h1, h3]
  unfold aW aMix
  rw [h1, h2, e, aTurn_eq h1 h3]
theorem aP_eq {A B : xAb} (h1 : aW B = aW A) (h2 : ab_sign B = ab_sign A) (h3 : ab_mark B = ab_mark A) : aP B = aP A := by
  have e : aHas B = aHas A := by
    funext w
    unfold aHas aNum
    rw [h2, h3]
  unfold aP
  rw [h1, e]
theorem pq_wipe : xPq 149 221 [] := by
  intro c A I L z hc hI
  have h := hI.1
  refine xupD (c_X8_wipe ?_) (by decide)
  refine xupD (c_X9_wipe ?_) (by decide)
  have h0 := h
  obtain ⟨_, _, _, _, hr, ⟨n, n1, n2, n3, n4⟩, _, _⟩ := h0
  refine ⟨?_, A, _, _, _, rfl, ?_⟩
  · rw [xw_ne1 (by decide), n2, n3]
  · refine xInv_to hI ?_ (fun o ho k => by rw [xw_ne1 (by omega), xw_ne1 (by omega)]) (xCache_fr hI.2.2.2.1 rfl rfl rfl (by rw [xw_ne1 (by omega), xw_ne1 (by omega)]) (by rw [xw_ne1 (by omega), xw_ne1 (by omega)]) (fun o ho k => by rw [xw_ne1 (by omega), xw_ne1 (by omega)]))
    obtain ⟨q0, q1, q2, q3, q4, q5, q6, q7⟩ := h
    refine ⟨q0, ?_, ?_, ?_, ?_, ?_, ?_, ?_⟩
    · exact xTX_congr (fun o a b k => by rw [xw_ne1 (by omega), xw_ne1 (by omega)]) q1
    · exact xTM_congr (by rw [xw_ne2 (by decide), xw_ne1 (by decide)]) (by rw [xw_ne2 (by decide), xw_ne1 (by decide)]) (by rw [xw_ne2 (by decide), xw_ne1 (by decide)]) (by rw [xw_ne2 (by decide), xw_ne1 (by decide)]) (fun o a b k => by rw [xw_ne1 (by omega), xw_ne1 (by omega)]) q2
    · exact q3
    · exact q4
    · exact ⟨0, by decide, rfl, rfl, fun i hi => absurd hi (Nat.not_lt_zero _)⟩
    · exact q6
    · intro hz
      obtain ⟨B, a, b, c⟩ := q7 hz
      exact ⟨B, a, xTX_congr (fun o a b k => by rw [xw_ne1 (by omega), xw_ne1 (by omega)]) b, xTM_congr (by rw [xw_ne1 (by decide), xw_ne1 (by decide)]) (by rw [xw_ne1 (by decide), xw_ne1 (by decide)]) (by rw [xw_ne1 (by decide), xw_ne1 (by decide)]) (by rw [xw_ne1 (by decide), xw_ne1 (by decide)]) (fun o a b k => by rw [xw_ne1 (by omega), xw_ne1 (by omega)]) c⟩
theorem pq_seed (a1 : Int32) : xPq 173 293 [.int a1] := by
  intro c A I L z hc hI
  have h := hI.1
  refine xupD (c_X8_seed ?_) (by decide)
  refine xupD (c_X9_seed ?_) (by decide)
  refine ⟨?_, ab_seedTo A a1, _, _, _, rfl, ?_⟩
  · rw [xw_ne1 (by decide), h.2.1.1.2.2.1, h.2.2.1.1.2.2.1]
  · refine xInv_to hI ?_ (fun o ho k => by rw [xw_ne1 (by omega), xw_ne1 (by omega)]) (xCache_fr hI.2.2.2.1 (aW_eq rfl rfl rfl) (aP_eq (aW_eq rfl rfl rfl) rfl rfl) rfl (by rw [xw_ne1 (by decide), xw_ne2 (by decide)]) (by rw [xw_ne1 (by decide), xw_ne2 (by decide)]) (fun o ho k => by rw [xw_ne1 (by omega), xw_ne1 (by omega)]))
    refine xBoth_tray h h.1 ?_ ?_ ?_ ?_ ?_
    · exact xTX_congr (fun o a b k => xw_ne1 (by omega)) (xTX_seed h.2.1)
    · exact xTM_seed (xTM_congr (xw_ne1 (by decide)) (xw_ne1 (by decide)) (xw_ne1 (by decide)) (xw_ne1 (by decide)) (fun o a b k => xw_ne1 (by omega)) h.2.2.1)
    · rw [xw_ne1 (by decide), xw_ne2 (by decide)]
    · intro o ho k; rw [xw_ne1 (by omega), xw_ne1 (by omega)]
    · rw [xw_ne2 (by decide), xw_ne1 (by decide)]
theorem pq_law (a1 : Int32) : xPq 142 211 [.int a1] := by
  intro c A I L z hc hI
  have h := hI.1
  refine xupD (c_X8_law ?_) (by decide)
  by_cases h1 : a1 < 0
  · rw [if_pos h1]
    refine xupD (c_X9_law ?_) (by decide)
    rw [if_neg (fun q => by
      have q := (xp_in (by decide) (by decide)).mp q
      rw [Int32.lt_iff_toInt_lt] at h1
      have e0 : (0 : Int32).toInt = 0 := rfl
      omega)]
    exact ⟨rfl, A, _, _, _, rfl, xInv_refuse (k := 2) (by decide) (by decide) hI⟩
  · by_cases h2 : 2 < a1
    · rw [if_neg h1, if_pos h2]
      refine xupD (c_X9_law ?_) (by decide)
      rw [if_neg (fun q => by
        have q := (xp_in (by decide) (by decide)).mp q
        rw [Int32.lt_iff_toInt_lt] at h2
        have e0 : (2 : Int32).toInt = 2 := rfl
        omega)]
      exact ⟨rfl, A, _, _, _, rfl, xInv_refuse (k := 2) (by decide) (by decide) hI⟩
    · rw [if_neg h1, if_neg h2]
      obtain ⟨v, hv, rfl⟩ := xv_of h1
      have hv2 : v ≤ 2 := by
        rw [Int32.lt_iff_toInt_lt, xv_int hv] at h2
        have e0 : (2 : Int32).toInt = 2 := rfl
        omega
      refine xupD (c_X9_law ?_) (by decide)
      rw [if_pos ((xp_in (by decide) (by decide)).mpr (by rw [xv_int hv]; omega))]
      refine ⟨?_, ab_lawTo A v, _, _, _, rfl, ?_⟩
      · rw [xw_ne1 (by decide), xw_ne1 (by decide), h.2.1.1.2.1, h.2.2.1.1.2.1]
      · refine xInv_to hI ?_ (fun o ho k => by rw [xw_ne1 (by omega), xw_ne1 (by omega), xw_ne1 (by omega)]) (Or.inl (by rw [xw_ne1 (by decide), xw_eq]))
        refine xBoth_tray h ⟨h.1.1, hv2, h.1.2.2⟩ ?_ ?_ ?_ ?_ ?_
        · exact xTX_congr (fun o a b k => xw_ne1 (by omega)) (xTX_old (by decide) (xTX_law h.2.1))
        · exact xTM_law (xTM_congr (by rw [xw_ne1 (by decide), xw_ne1 (by decide)]) (by rw [xw_ne1 (by decide), xw_ne1 (by decide)]) (by rw [xw_ne1 (by decide), xw_ne1 (by decide)]) (by rw [xw_ne1 (by decide), xw_ne1 (by decide)]) (fun o a b k => by rw [xw_ne1 (by omega), xw_ne1 (by omega)]) h.2.2.1)
        · rw [xw_ne1 (by decide), xw_ne2 (by decide), xw_ne2 (by decide)]
        · intro o ho k; rw [xw_ne1 (by omega), xw_ne1 (by omega), xw_ne1 (by omega)]
        · rw [xw_ne2 (by decide), xw_ne1 (by decide), xw_ne1 (by decide)]
theorem pq_stands (a1 : Int32) : xPq 172 292 [.int a1] := by
  intro c A I L z hc hI
  have h := hI.1
  have hn : I 10 0 = Int32.ofNat (ab_n A) := h.2.1.1.1
  have hm : I 66 9 = Int32.ofNat (ab_n A) := h.2.2.1.1.1
  refine xupD (c_X8_stands ?_) (by decide)
  by_cases hp : 0 ≤ a1.toInt ∧ a1.toInt < (ab_n A : Int)
  · rw [if_pos ((xp_hasPlace hn h.1.1.2).mpr hp)]
    refine xupD (c_X9_stands ?_) (by decide)
    have h0 : ¬ a1 < 0 := xv_nn hp.1
    obtain ⟨v, hv, rfl⟩ := xv_of h0
    have hv6 : v < 6 := by
      have q := hp.2
      rw [xv_int hv] at q
      have := h.1.1.2
      omega
    rw [if_pos ((xp_isPlace hm h.1.1.1 h.1.1.2).mpr hp), if_pos ((xv_in hv).mpr hv6), xv_clamp hv]
    refine ⟨?_, A, I, L, z, rfl, xInv_w hI⟩
    have e : f_X6_truthAt I L (Int32.ofNat v) = I 12 v := by
      unfold f_X6_truthAt
      rw [if_neg h0, if_pos (show Int32.ofNat v < 6 from (xv_lt hv (by decide)).mpr hv6), if_pos ((xv_in hv).mpr hv6), xv_clamp hv]
    have s1 : I 12 v = Int32.ofNat (ab_stood A v) := h.2.1.2.2.1 v hv6
    have s2 : I 84 v = Int32.ofNat (ab_stood A v) := h.2.2.1.2.2.1 v (by have q := hp.2; rw [xv_int hv] at q; omega)
    rw [e, s1, s2]
  · rw [if_neg (fun q => hp ((xp_hasPlace hn h.1.1.2).mp q))]
    refine xupD (c_X9_stands ?_) (by decide)
    rw [if_neg (fun q => hp ((xp_isPlace (show xrfu I (-2 : Int32) 66 9 = _ by
      rw [show xrfu I (-2 : Int32) = xw I 65 0 (I 65 0 + 1) from xrfu_at (k := 2) (by decide) (by decide), xw_ne1 (by decide)]
      exact hm) h.1.1.1 h.1.1.2).mp q))]
    exact ⟨rfl, A, _, _, _, rfl, xInv_refuse (k := 2) (by decide) (by decide) hI⟩
theorem pq_feed (a1 : Int32) : xPq 148 220 [.int a1] := by
  intro c A I L z hc hI
  have h := hI.1
  have e0 : (0 : Int32).toInt = 0 := rfl
  have e255 : (255 : Int32).toInt = 255 := rfl
  refine xupD (c_X8_feed ?_) (by decide)
  by_cases h1 : a1 < 0
  · rw [if_pos h1]
    refine xupD (c_X9_feed ?_) (by decide)
    rw [if_neg (fun q => by
      have q := (xp_in (by decide) (by decide)).mp q
      rw [Int32.lt_iff_toInt_lt] at h1
      omega)]
    exact ⟨rfl, A, _, _, _, rfl, xInv_refuse (k := 2) (by decide) (by decide) hI⟩
  · by_cases h2 : 255 < a1
    · rw [if_neg h1, if_pos h2]
      refine xupD (c_X9_feed ?_) (by decide)
      rw [if_neg (fun q => by
        have q := (xp_in (by decide) (by decide)).mp q
        rw [Int32.lt_iff_toInt_lt] at h2
        omega)]
      exact ⟨rfl, A, _, _, _, rfl, xInv_refuse (k := 2) (by decide) (by decide) hI⟩
    · rw [if_neg h1, if_neg h2]
      obtain ⟨v, hv, rfl⟩ := xv_of h1
      have hv2 : v < 256 := by
        rw [Int32.lt_iff_toInt_lt, xv_int hv] at h2
        omega
      obtain ⟨n, n1, n2, n3, n4⟩ := h.2.2.2.2.2.1
      have hns : n < 2147483648 := by omega
      rw [if_neg (show ¬ I 61 0 < 0 by rw [n2]; exact xv_neg hns)]
      by_cases hn : n < 250
      · rw [if_pos (show I 61 0 < 250 by rw [n2]; exact (xv_lt hns (by decide)).mpr hn), if_pos (show xin (I 61 0) 250 by rw [n2]; exact (xv_in hns).mpr hn)]
        have s1 : xw (xw I 62 (Int32.toNatClampNeg (I 61 0)) (Int32.ofNat v)) 61 0 ((xw I 62 (Int32.toNatClampNeg (I 61 0)) (Int32.ofNat v)) 61 0 + 1) = xw (xw I 62 n (Int32.ofNat v)) 61 0 (Int32.ofNat (n + 1)) := by
          rw [xw_ne1 (o := 62) (o' := 61) (by decide), n2, xv_clamp hns, show Int32.ofNat n + 1 = Int32.ofNat (n + 1) from xv_add n 1]
        rw [s1]
        refine xupD (c_X9_feed ?_) (by decide)
        have m1 : xw (xw I 62 n (Int32.ofNat v)) 61 0 (Int32.ofNat (n + 1)) 66 7 = Int32.ofNat n := by
          rw [xw_ne1 (by decide), xw_ne1 (by decide)]; exact n3
        have x1 : xw (xw I 62 n (Int32.ofNat v)) 61 0 (Int32.ofNat (n + 1)) 61 0 = Int32.ofNat (n + 1) := xw_eq _ _ _ _
        have fr : ∀ o, o ≠ 61 → o ≠ 62 → ∀ k, xw (xw I 62 n (Int32.ofNat v)) 61 0 (Int32.ofNat (n + 1)) o k = I o k := fun o a b k => by rw [xw_ne1 a, xw_ne1 b]
        have ti : ∀ k, xw (xw I 62 n (Int32.ofNat v)) 61 0 (Int32.ofNat (n + 1)) 62 k = if k = n then Int32.ofNat v else I 62 k := by
          intro k
          rw [xw_ne1 (by decide)]
          by_cases q : k = n
          · rw [if_pos q, q, xw_eq]
          · rw [if_neg q, xw_ne2 q]
        generalize xw (xw I 62 n (Int32.ofNat v)) 61 0 (Int32.ofNat (n + 1)) = J at m1 x1 fr ti ⊢
        rw [if_pos ((xp_in (by decide) (by decide)).mpr (by rw [xv_int hv]; omega)), if_neg (by rw [m1]; exact fun q => by have := (xv_eq hns (show 250 < 2147483648 by decide)).mp q; omega), if_pos (show xin (J 66 7) 250 by rw [m1]; exact (xv_in hns).mpr hn)]
        rw [m1, xv_clamp hns, show Int32.ofNat n + 1 = Int32.ofNat (n + 1) from xv_add n 1]
        refine ⟨?_, A, _, _, _, rfl, ?_⟩
        · rw [xw_ne1 (by decide), xw_eq, x1]
        · refine xInv_to hI ?_ (fun o ho k => by rw [xw_ne1 (by omega), xw_ne1 (by omega), fr o (by omega) (by omega)]) (xCache_fr hI.2.2.2.1 rfl rfl rfl (by rw [xw_ne1 (by omega), xw_ne1 (by omega), fr _ (by omega) (by omega)]) (by rw [xw_ne1 (by omega), xw_ne1 (by omega), fr _ (by omega) (by omega)]) (fun o ho k => by rw [xw_ne1 (by omega), xw_ne1 (by omega), fr o (by omega) (by omega)]))
          obtain ⟨q0, q1, q2, q3, q4, q5, q6, q7⟩ := h
          refine ⟨q0, ?_, ?_, ?_, ?_, ?_, ?_, ?_⟩
          · exact xTX_congr (fun o a b k => by rw [xw_ne1 (by omega), xw_ne1 (by omega), fr o (by omega) (by omega)]) q1
          · exact xTM_congr (by rw [xw_ne1 (by decide), xw_ne2 (by decide), fr _ (by decide) (by decide)]) (by rw [xw_ne1 (by decide), xw_ne2 (by decide), fr _ (by decide) (by decide)]) (by rw [xw_ne1 (by decide), xw_ne2 (by decide), fr _ (by decide) (by decide)]) (by rw [xw_ne1 (by decide), xw_ne2 (by decide), fr _ (by decide) (by decide)]) (fun o a b k => by rw [xw_ne1 (by omega), xw_ne1 (by omega), fr o (by omega) (by omega)]) q2
          · intro s hs
            have e := q3 s hs
            unfold xShM at e ⊢
            have fr2 : ∀ o, o ≠ 61 → o ≠ 62 → o ≠ 66 → o ≠ 81 → ∀ k, xw (xw J 66 7 (Int32.ofNat (n + 1))) 81 n (Int32.ofNat v) o k = I o k := fun o a b c d k => by rw [xw_ne1 d, xw_ne1 c, fr o a b]
            rw [fr2 58 (by decide) (by decide) (by decide) (by decide), fr2 59 (by decide) (by decide) (by decide) (by decide), fr2 67 (by decide) (by decide) (by decide) (by decide), fr2 68 (by decide) (by decide) (by decide) (by decide), fr2 69 (by decide) (by decide) (by decide) (by decide), fr2 80 (by decide) (by decide) (by decide) (by decide), fr2 10 (by decide) (by decide) (by decide) (by decide)]
            exact e
          · intro i hi
            rw [xw_ne1 (by decide), xw_ne1 (by decide), xw_ne1 (by decide), xw_ne1 (by decide), fr _ (by decide) (by decide), fr _ (by decide) (by decide)]
            exact q4 i hi
          · refine ⟨n + 1, hn, ?_, ?_, ?_⟩
            · rw [xw_ne1 (by decide), xw_ne1 (by decide)]; exact x1
            · rw [xw_ne1 (by decide), xw_eq]
            · intro i hi
              rw [xw_ne1 (o' := 62) (by decide), xw_ne1 (o' := 62) (by decide), ti]
              by_cases q : i = n
              · rw [if_pos q, q, xw_eq]
                exact ⟨rfl, v, hv2, rfl⟩
              · rw [if_neg q, xw_ne2 q, xw_ne1 (by decide), fr _ (by decide) (by decide)]
                exact n4 i (by omega)
          · rw [xw_ne1 (by decide), xw_ne1 (by decide), fr _ (by decide) (by decide)]; exact q6
          · intro hz
            obtain ⟨B, a, b, c⟩ := q7 hz
            exact ⟨B, a, xTX_congr (fun o a b k => by rw [xw_ne1 (by omega), xw_ne1 (by omega), fr o (by omega) (by omega)]) b, xTM_congr (by rw [xw_ne1 (by decide), xw_ne1 (by decide), fr _ (by decide) (by decide)]) (by rw [xw_ne1 (by decide), xw_ne1 (by decide), fr _ (by decide) (by decide)]) (by rw [xw_ne1 (by decide), xw_ne1 (by decide), fr _ (by decide) (by decide)]) (by rw [xw_ne1 (by decide), xw_ne1 (by decide), fr _ (by decide) (by decide)]) (fun o a b k => by rw [xw_ne1 (by omega), xw_ne1 (by omega), fr o (by omega) (by omega)]) c⟩
      · have hn250 : n = 250 := by omega
        subst hn250
        rw [if_neg (show ¬ I 61 0 < 250 by rw [n2]; decide)]
        refine xupD (c_X9_feed ?_) (by decide)
        rw [if_pos ((xp_in (by decide) (by decide)).mpr (by rw [xv_int hv]; omega)), if_pos (show xrfu I (-6 : Int32) 66 7 = 250 by
          rw [show xrfu I (-6 : Int32) = xw I 65 4 (I 65 4 + 1) from xrfu_at (k := 6) (by decide) (by decide), xw_ne1 (by decide), n3]; rfl)]
        exact ⟨rfl, A, _, _, _, rfl, xInv_refuse (k := 6) (by decide) (by decide) hI⟩
theorem pq_holds (a1 : Int32) : xPq 137 199 [.int a1] := by
  intro c A I L z hc hI
  have h := hI.1
  have e0 : (0 : Int32).toInt = 0 := rfl
  have e8 : (8 : Int32).toInt = 8 := rfl
  refine xupD (c_X8_holds ?_) (by decide)
  by_cases hp : 0 ≤ a1.toInt ∧ a1.toInt ≤ 7
  · obtain ⟨v, hv, rfl⟩ := xv_of (xv_nn hp.1)
    have h8 : v < 8 := by
      have q := hp.2
      rw [xv_int hv] at q
      omega
    have hi : xin (Int32.ofNat v) 8 := (xv_in hv).mpr h8
    have e : f_X2_thingOf I L (Int32.ofNat v) = I 58 v := by
      unfold f_X2_thingOf
      rw [if_pos (show p_X2_isShelf I L (Int32.ofNat v) from ⟨xv_neg hv, (xv_lt hv (show 8 < 2147483648 by decide)).mpr h8⟩), if_pos hi, xv_clamp hv]
    rw [e]
    refine xupD (c_X9_holds ?_) (by decide)
    rw [if_pos ((xp_in (by decide) (by decide)).mpr (by rw [xv_int hv]; omega))]
    simp only [if_pos hi]
    rw [xv_clamp hv]
    rcases h.2.2.2.1 v h8 with ⟨g1, g2⟩ | ⟨s, n, b1, b2, g1, g2, g3, g4, g5, g6⟩ | ⟨t, b1, b2, g1, g2, g3⟩
    · rw [if_pos g2]
      exact ⟨by rw [g1], A, I, L, z, rfl, xInv_w hI⟩
    · rw [if_neg (by rw [g3]; decide), if_pos g3, g4]
      exact ⟨by rw [g1], A, I, L, z, rfl, xInv_w hI⟩
    · rw [if_neg (by rw [g2]; decide), if_neg (by rw [g2]; decide), g3]
      exact ⟨by rw [g1, show (10 : Int32) + Int32.ofNat t = Int32.ofNat (10 + t) from xv_add 10 t], A, I, L, z, rfl, xInv_w hI⟩
  · have e : f_X2_thingOf I L a1 = -1 := by
      unfold f_X2_thingOf
      rw [if_neg (fun q => hp (by
        obtain ⟨q1, q2⟩ := q
        rw [Int32.lt_iff_toInt_lt] at q1 q2
        omega))]
    rw [e]
    refine xupD (c_X9_holds ?_) (by decide)
    rw [if_neg (fun q => hp (by
      have q := (xp_in (by decide) (by decide)).mp q
      omega))]
    exact ⟨rfl, A, I, L, z, rfl, xInv_w hI⟩
theorem pq_guest (a1 a2 a3 : Int32) : xPq 144 213 [.int a1, .int a2, .int a3] := by
  intro c A I L z hc hI
  have h := hI.1
  have hn : I 10 0 = Int32.ofNat (ab_n A) := h.2.1.1.1
  have hm : I 66 9 = Int32.ofNat (ab_n A) := h.2.2.1.1.1
  have h6 : ab_n A ≤ 6 := h.1.1.2
  have e0 : (0 : Int32).toInt = 0 := rfl
  have e6 : (6 : Int32).toInt = 6 := rfl
  have e9 : (9 : Int32).toInt = 9 := rfl
  have f1 : (Int64.ofNat 18446744073709551615).toInt = -1 := rfl
  have f0 : (Int64.ofNat 0).toInt = 0 := rfl
  have f5 : (Int64.ofNat 5).toInt = 5 := rfl
  have f9 : (Int64.ofNat 9).toInt = 9 := rfl
  have X1 := xp_hasPlace (L := L) (a := a1) hn h.1.1.2
  have X2 : p_X8_isSort I L a2 ↔ (0 ≤ a2.toInt ∧ a2.toInt < 6) := by
    show (¬ a2 < 0 ∧ a2 < 6) ↔ _
    simp only [Int32.lt_iff_toInt_lt, e0, e6]
    omega
  have X3 : p_X8_isNumber I L a3 ↔ (0 ≤ a3.toInt ∧ a3.toInt ≤ 9) := by
    show (¬ a3 < 0 ∧ ¬ 9 < a3) ↔ _
    simp only [Int32.lt_iff_toInt_lt, e0, e9]
    omega
  have E1 : a2 = -1 ↔ a2.toInt = -1 := ⟨fun q => by rw [q]; rfl, fun q => Int32.toInt_inj.mp (by rw [q]; rfl)⟩
  have M1 : ∀ J : xI, J 66 9 = I 66 9 → (p_X9_isPlace J L (Int32.toInt64 a1) ↔ (0 ≤ a1.toInt ∧ a1.toInt < (ab_n A : Int))) := fun J q => xp_isPlace (q.trans hm) h.1.1.1 h.1.1.2
  have M2 : ∀ J : xI, p_X9_in J L (Int32.toInt64 a2) (Int64.ofNat 18446744073709551615) (Int64.ofNat 5) ↔ (-1 ≤ a2.toInt ∧ a2.toInt ≤ 5) := fun J => by rw [xp_inG, f1, f5]
  have M3 : ∀ J : xI, p_X9_in J L (Int32.toInt64 a3) (Int64.ofNat 0) (Int64.ofNat 9) ↔ (0 ≤ a3.toInt ∧ a3.toInt ≤ 9) := fun J => by rw [xp_inG, f0, f9]
  refine xupD (c_X8_guest ?_) (by decide)
  have no : ¬ ((0 ≤ a1.toInt ∧ a1.toInt < (ab_n A : Int)) ∧ (-1 ≤ a2.toInt ∧ a2.toInt ≤ 5) ∧ (0 ≤ a3.toInt ∧ a3.toInt ≤ 9)) → xCd 30 213 [.ref 66, .int a1, .int a2, .int a3] (xS (xrfu I (-2 : Int32)) L z) (fun r' τ' => r' = some (.int (-2 : Int32)) ∧ ∃ A' I' L' z', τ' = xS I' L' z' ∧ xInv (c + 1) A' I' L' z') := by
    intro hno
    have hJ : xrfu I (-2 : Int32) 66 9 = I 66 9 := by
      rw [show xrfu I (-2 : Int32) = xw I 65 0 (I 65 0 + 1) from xrfu_at (k := 2) (by decide) (by decide), xw_ne1 (by decide)]
    refine xupD (c_X9_guest ?_) (by decide)
    by_cases c1 : 0 ≤ a1.toInt ∧ a1.toInt < (ab_n A : Int)
    · rw [if_pos ((M1 _ hJ).mpr c1)]
      by_cases c2 : -1 ≤ a2.toInt ∧ a2.toInt ≤ 5
      · rw [if_pos ((M2 _).mpr c2), if_neg (fun q => hno ⟨c1, c2, (M3 _).mp q⟩)]
        exact ⟨rfl, A, _, _, _, rfl, xInv_refuse (k := 2) (by decide) (by decide) hI⟩
      · rw [if_neg (fun q => c2 ((M2 _).mp q))]
        exact ⟨rfl, A, _, _, _, rfl, xInv_refuse (k := 2) (by decide) (by decide) hI⟩
    · rw [if_neg (fun q => c1 ((M1 _ hJ).mp q))]
      exact ⟨rfl, A, _, _, _, rfl, xInv_refuse (k := 2) (by decide) (by decide) hI⟩
  by_cases c1 : 0 ≤ a1.toInt ∧ a1.toInt < (ab_n A : Int)
  · have P := X1.mpr c1
    obtain ⟨v, hv, rfl⟩ := xv_of (xv_nn c1.1)
    have hv6 : v < 6 := by
      have q := c1.2
      rw [xv_int hv] at q
      omega
    have hi : xin (Int32.ofNat v) 6 := (xv_in hv).mpr hv6
    have acc : (-1 ≤ a2.toInt ∧ a2.toInt ≤ 5) → (0 ≤ a3.toInt ∧ a3.toInt ≤ 9) → xCd 30 213 [.ref 66, .int (Int32.ofNat v), .int a2, .int a3] (xS (xw (xw I 14 (Int32.toNatClampNeg (Int32.ofNat v)) a2) 15 (Int32.toNatClampNeg (Int32.ofNat v)) a3) L z) (fun r' τ' => r' = some (.int 1) ∧ ∃ A' I' L' z', τ' = xS I' L' z' ∧ xInv (c + 1) A' I' L' z') := by
      intro c2 c3
      rw [xv_clamp hv]
      refine xupD (c_X9_guest ?_) (by decide)
      rw [if_pos ((M1 _ (by rw [xw_ne1 (by decide), xw_ne1 (by decide)])).mpr c1), if_pos ((M2 _).mpr c2), if_pos ((M3 _).mpr c3)]
      simp only [if_pos hi]
      rw [xv_clamp hv]
      obtain ⟨m, hm3, rfl⟩ := xv_of (xv_nn c3.1)
      have hm9 : m < 10 := by
        have q := c3.2
        rw [xv_int hm3] at q
        omega
      have a2v : a2 = -1 ∨ ∃ u, u < 6 ∧ a2 = Int32.ofNat u := by
        by_cases q : a2 = -1
        · exact Or.inl q
        · have q1 : ¬ a2.toInt = -1 := fun x => q (E1.mpr x)
          obtain ⟨u, hu, e⟩ := xv_of (xv_nn (a := a2) (by omega))
          refine Or.inr ⟨u, ?_, e⟩
          have q2 := c2.2
          rw [e, xv_int hu] at q2
          omega
      refine ⟨trivial, ab_guestTo A v a2 m, _, _, _, rfl, ?_⟩
      obtain ⟨k1, k2, k3, k4, k5, k6, k7, k8, k9, k10⟩ := h.1
      refine xInv_to hI ?_ (fun o ho k => by rw [xw_ne1 (by omega), xw_ne1 (by omega), xw_ne1 (by omega), xw_ne1 (by omega)]) (xCache_fr hI.2.2.2.1 (aW_eq rfl rfl rfl) (aP_eq (aW_eq rfl rfl rfl) rfl rfl) rfl (by rw [xw_ne1 (by omega), xw_ne1 (by omega), xw_ne1 (by omega), xw_ne1 (by omega)]) (by rw [xw_ne1 (by omega), xw_ne1 (by omega), xw_ne1 (by omega), xw_ne1 (by omega)]) (fun o ho k => by rw [xw_ne1 (by omega), xw_ne1 (by omega), xw_ne1 (by omega), xw_ne1 (by omega)]))
      refine xBoth_tray h ⟨k1, k2, k3, k4, k5, k6, ?_, ?_, k9, k10⟩ ?_ ?_ ?_ ?_ ?_
      · intro k hk
        show (if k = v then a2 else ab_want A k) = -1 ∨ ∃ u, u < 6 ∧ (if k = v then a2 else ab_want A k) = Int32.ofNat u
        by_cases e : k = v
        · rw [if_pos e]; exact a2v
        · rw [if_neg e]; exact k7 k hk
      · intro k hk
        show (if k = v then m else ab_mind A k) < 10
        by_cases e : k = v
        · rw [if_pos e]; exact hm9
        · rw [if_neg e]; exact k8 k hk
      · exact xTX_congr (fun o a b k => by rw [xw_ne1 (by omega), xw_ne1 (by omega)]) (xTX_guest (t := 10) h.2.1)
      · exact xTM_guest (t := 66) (xTM_congr (by rw [xw_ne1 (by decide), xw_ne1 (by decide)]) (by rw [xw_ne1 (by decide), xw_ne1 (by decide)]) (by rw [xw_ne1 (by decide), xw_ne1 (by decide)]) (by rw [xw_ne1 (by decide), xw_ne1 (by decide)]) (fun o a b k => by rw [xw_ne1 (by omega), xw_ne1 (by omega)]) h.2.2.1)
      · rw [xw_ne1 (by decide), xw_ne1 (by decide), xw_ne1 (by decide), xw_ne1 (by decide)]
      · intro o ho k; rw [xw_ne1 (by omega), xw_ne1 (by omega), xw_ne1 (by omega), xw_ne1 (by omega)]
      · rw [xw_ne1 (by decide), xw_ne1 (by decide), xw_ne1 (by decide), xw_ne1 (by decide)]
    rw [if_pos P]
    by_cases c3 : 0 ≤ a3.toInt ∧ a3.toInt ≤ 9
    · have P3 := X3.mpr c3
      by_cases q : a2 = -1
      · rw [if_pos q, if_pos P3]
        simp only [if_pos hi]
        first | exact acc (by rw [E1.mp q]; omega) c3 | (rw [if_pos P]; exact acc (by rw [E1.mp q]; omega) c3)
      · rw [if_neg q]
        by_cases c2 : 0 ≤ a2.toInt ∧ a2.toInt < 6
        · rw [if_pos (X2.mpr c2), if_pos P3]
          simp only [if_pos hi]
          first | exact acc (by omega) c3 | (rw [if_pos P]; exact acc (by omega) c3)
        · rw [if_neg (fun x => c2 (X2.mp x))]
          refine no (fun x => ?_)
          have q1 : ¬ a2.toInt = -1 := fun y => q (E1.mpr y)
          exact c2 (by have := x.2.1; omega)
    · have P3 : ¬ p_X8_isNumber I L a3 := fun x => c3 (X3.mp x)
      have hno := no (fun x => c3 x.2.2)
      by_cases q : a2 = -1
      · rw [if_pos q, if_neg P3]; exact hno
      · rw [if_neg q]
        by_cases c2 : p_X8_isSort I L a2
        · rw [if_pos c2, if_neg P3]; exact hno
        · rw [if_neg c2]; exact hno
  · rw [if_neg (fun x => c1 (X1.mp x))]
    exact no (fun x => c1 x.1)
theorem pq_element (a1 a2 : Int32) : xPq 136 198 [.int a1, .int a2] := by
  intro c A I L z hc hI
  have h := hI.1
  have e0 : (0 : Int32).toInt = 0 := rfl
  have e8 : (8 : Int32).toInt = 8 := rfl
  have e40 : (40 : Int32).toInt = 40 := rfl
  have e5 : (5 : Int32).toInt = 5 := rfl
  have f0 : (Int64.ofNat 0).toInt = 0 := rfl
  refine xupD (c_X8_element ?_) (by decide)
  by_cases hp : 0 ≤ a1.toInt ∧ a1.toInt ≤ 7
  · obtain ⟨v, hv, rfl⟩ := xv_of (xv_nn hp.1)
    have h8 : v < 8 := by
      have q := hp.2
      rw [xv_int hv] at q
      omega
    have hi : xin (Int32.ofNat v) 8 := (xv_in hv).mpr h8
    have E : p_X2_hasElement I L (Int32.ofNat v) a2 ↔ (¬ I 58 v < 0 ∧ I 58 v < 5 ∧ ¬ a2 < 0 ∧ a2 < I 59 v ∧ a2 < 40) := by
      show ((¬ Int32.ofNat v < 0 ∧ (Int32.ofNat v < 8 ∧ (xin (Int32.ofNat v) 8 ∧ (¬ (I 58 (Int32.toNatClampNeg (Int32.ofNat v))) < 0 ∧ (xin (Int32.ofNat v) 8 ∧ (I 58 (Int32.toNatClampNeg (Int32.ofNat v))) < 5))))) ∧ (¬ a2 < 0 ∧ (xin (Int32.ofNat v) 8 ∧ (a2 < (I 59 (Int32.toNatClampNeg (Int32.ofNat v))) ∧ a2 < 40)))) ↔ _
      rw [xv_clamp hv]
      exact ⟨fun q => ⟨q.1.2.2.2.1, q.1.2.2.2.2.2, q.2.1, q.2.2.2.1, q.2.2.2.2⟩, fun q => ⟨⟨xv_neg hv, (xv_lt hv (show 8 < 2147483648 by decide)).mpr h8, hi, q.1, hi, q.2.1⟩, q.2.2.1, hi, q.2.2.2.1, q.2.2.2.2⟩⟩
    have M1 := (xp_in (I := I) (L := L) (a := Int32.ofNat v) (show 0 < 2147483648 by decide) (show 7 < 2147483648 by decide)).mpr (by rw [xv_int hv]; omega)
    rcases h.2.2.2.1 v h8 with ⟨g1, g2⟩ | ⟨s, n, b1, b2, g1, g2, g3, g4, g5, g6⟩ | ⟨t, b1, b2, g1, g2, g3⟩
    · rw [if_neg (fun q => (E.mp q).1 (by rw [g1]; decide))]
      refine xupD (c_X9_element ?_) (by decide)
      rw [if_pos M1]
      simp only [if_pos hi]
      rw [xv_clamp hv, if_neg (by rw [g2]; decide)]
      exact ⟨by first | rfl | trivial, A, I, L, z, rfl, xInv_w hI⟩
    · have hs : s < 2147483648 := by omega
      have hn : n < 2147483648 := by omega
      have N : p_X9_in I L (Int32.toInt64 a2) (Int64.ofNat 0) (Int32.toInt64 (I 69 v - 1)) ↔ (0 ≤ a2.toInt ∧ a2.toInt ≤ (n : Int) - 1) := by
        rw [xp_inG, g5, f0, xv_less1 n (by omega)]
      by_cases c : 0 ≤ a2.toInt ∧ a2.toInt < (n : Int)
      · obtain ⟨u, hu, rfl⟩ := xv_of (xv_nn c.1)
        have hun : u < n := by
          have q := c.2
          rw [xv_int hu] at q
          omega
        rw [if_pos (E.mpr ⟨by rw [g1]; exact xv_neg hs, by rw [g1]; exact (xv_lt hs (show 5 < 2147483648 by decide)).mpr b1, xv_neg hu, by rw [g2]; exact (xv_lt hu hn).mpr hun, (xv_lt hu (show 40 < 2147483648 by decide)).mpr (by omega)⟩)]
        have ix : Int32.ofNat v * 40 + Int32.ofNat u = Int32.ofNat (v * 40 + u) := by
          rw [show Int32.ofNat v * 40 = Int32.ofNat (v * 40) from xv_mul v 40, xv_add]
        rw [ix, if_pos ((xv_in (by omega)).mpr (by omega)), xv_clamp (by omega)]
        refine xupD (c_X9_element ?_) (by decide)
        rw [if_pos M1]
        simp only [if_pos hi]
        rw [xv_clamp hv, if_pos g3, if_pos (N.mpr (by rw [xv_int hu]; omega))]
        have k1 : xis (xS I L z) (70 + 1 + v) 21 = true := by
          have hk : v = 0 ∨ v = 1 ∨ v = 2 ∨ v = 3 ∨ v = 4 ∨ v = 5 ∨ v = 6 ∨ v = 7 := by omega
          obtain rfl | rfl | rfl | rfl | rfl | rfl | rfl | rfl := hk <;> rfl
        have k2 : xlen z.2.2 (70 + 1 + v) = 40 := by
          have hk : v = 0 ∨ v = 1 ∨ v = 2 ∨ v = 3 ∨ v = 4 ∨ v = 5 ∨ v = 6 ∨ v = 7 := by omega
          obtain rfl | rfl | rfl | rfl | rfl | rfl | rfl | rfl := hk <;> rfl
        refine xbifT k1 ?_
        rw [k2, if_pos ((xv_in hu).mpr (by omega)), xv_clamp hu]
        exact ⟨by rw [g6 u hun], A, I, L, z, rfl, xInv_w hI⟩
      · rw [if_neg (fun q => c (by
          obtain ⟨_, _, q1, q2, _⟩ := E.mp q
          rw [g2, Int32.lt_iff_toInt_lt, xv_int hn] at q2
          rw [Int32.lt_iff_toInt_lt] at q1
          omega))]
        refine xupD (c_X9_element ?_) (by decide)
        rw [if_pos M1]
        simp only [if_pos hi]
        rw [xv_clamp hv, if_pos g3, if_neg (fun q => c (by have := N.mp q; omega))]
        exact ⟨by first | rfl | trivial, A, I, L, z, rfl, xInv_w hI⟩
    · rw [if_neg (fun q => by
        have q2 := (E.mp q).2.1
        rw [g1, Int32.lt_iff_toInt_lt, xv_int (by omega)] at q2
        omega)]
      refine xupD (c_X9_element ?_) (by decide)
      rw [if_pos M1]
      simp only [if_pos hi]
      rw [xv_clamp hv, if_neg (by rw [g2]; decide)]
      exact ⟨by first | rfl | trivial, A, I, L, z, rfl, xInv_w hI⟩
  · rw [if_neg (fun q => hp (by
      have q1 := q.1.1
      have q2 := q.1.2.1
      rw [Int32.lt_iff_toInt_lt] at q1 q2
      omega))]
    refine xupD (c_X9_element ?_) (by decide)
    rw [if_neg (fun q => hp (by
      have q := (xp_in (by decide) (by decide)).mp q
      omega))]
    exact ⟨by first | rfl | trivial, A, I, L, z, rfl, xInv_w hI⟩
