def scrP : Nat → Nat → Prop := fun o k => (o = 37 ∧ k = 1) ∨ o = 39 ∨ o = 40 ∨ o = 42
theorem xTX_P {I J : xI} {A : xAb} (h : xsm scrP I J) (q : xTX I 10 A) : xTX J 10 A := xTX_sm h (fun k hk => by unfold scrP; omega) (fun o a b k => by unfold scrP; omega) q
theorem t_takePossible {A : xAb} {I : xI} {L : xL} {z : Bool × Bool × Nat} {w m : Nat} {base : Nat → Nat → Nat} (hA : abOK A) (hX : xTX I 10 A) (hs : xShf I) (hw : w ∈ aW A) (h0 : I 37 1 = Int32.ofNat m) (hm : m < 720) (hb : ∀ p, p < 6 → ∀ s, s < 8 → I 40 (p * 8 + s) = Int32.ofNat (base p s)) : xCd 1 121 [.ref 37, .int (Int32.ofNat w)] (xS I L z) (fun r τ => r = none ∧ ∃ J, τ = xS J L z ∧ xsm scrP I J ∧ J 37 1 = Int32.ofNat (m + 1) ∧ J 39 m = Int32.ofNat w ∧ (∀ k, k ≠ m → J 39 k = I 39 k) ∧ (∀ k, J 42 k = I 42 k) ∧ ∀ p, p < 6 → ∀ s, s < 8 → J 40 (p * 8 + s) = Int32.ofNat (base p s + (if p < ab_n A ∧ wd w p = s then 1 else 0))) := by
  refine c_X7_takePossible (g_X7_takePossible_0 (Nat.zero_le _) ?_)
  have h6 := hA.1.2
  have hlt := aW_lt hA hw
  simp (disch := omega) only [xl_0, xl_1, xl_2, xl_3, xl_4, xl_5, xl_6, xl_7, xl_8, xl_9, xl_10, xl_15, xl_18, xl_24, xl_31, xl_32, xl_36, xl_40, xl_48, xl_63, xl_64, xl_144, xl_250, xl_320, xl_720, xl_721, xl_1000, xl_1023, xl_1024, xv_lt, xv_eq, xv_in, xv_clamp, xv_add, xv_mul, xv_dec, xv_div, xv_mod, xv_m1, xv_m1', xv_and, xv_or, xv_shl, xv_shr, xv_bit0, xv_bit1, h0, hm, if_true]
  rw [xw_ne1 (show (37 : Nat) ≠ 39 by decide), h0, xv_add]
  have hJ0 : xsm scrP I (xw (xw I 39 m (Int32.ofNat w)) 37 1 (Int32.ofNat (m + 1))) := xsm_xw (Or.inl ⟨rfl, rfl⟩) (xsm_xw (Or.inr (Or.inl rfl)) (xsm_refl _ _))
  have key : ∀ p, p ≤ ab_n A → ∀ J : xI, xsm scrP I J → J 37 1 = Int32.ofNat (m + 1) → J 39 m = Int32.ofNat w → (∀ k, k ≠ m → J 39 k = I 39 k) → (∀ k, J 42 k = I 42 k) → (∀ q, q < 6 → ∀ s, s < 8 → J 40 (q * 8 + s) = Int32.ofNat (base q s + (if q < p ∧ wd w q = s then 1 else 0))) → h_X7_takePossible_35 0 (fun r τ => r = none ∧ ∃ J, τ = xS J L z ∧ xsm scrP I J ∧ J 37 1 = Int32.ofNat (m + 1) ∧ J 39 m = Int32.ofNat w ∧ (∀ k, k ≠ m → J 39 k = I 39 k) ∧ (∀ k, J 42 k = I 42 k) ∧ ∀ p, p < 6 → ∀ s, s < 8 → J 40 (p * 8 + s) = Int32.ofNat (base p s + (if p < ab_n A ∧ wd w p = s then 1 else 0))) (0, 0) J L z (Int32.ofNat w) (Int32.ofNat p) := by
    refine xcount _ (ab_n A) ?_ ?_
    · intro p hp k J hJ j0 j1 j2 j3 j4
      refine g_X7_takePossible_35 (Nat.zero_le _) ?_
      have hn := (xTX_P hJ hX).1.1
      have hs' : xShf J := xShf_sm hJ (fun k => by unfold scrP; omega) hs
      have p6 : p < 6 := by omega
      have a3 := wd_lt w p
      have a4 : p * 8 + wd w p < 48 := by omega
      simp (disch := omega) only [xl_0, xl_1, xl_2, xl_3, xl_4, xl_5, xl_6, xl_7, xl_8, xl_9, xl_10, xl_15, xl_18, xl_24, xl_31, xl_32, xl_36, xl_40, xl_48, xl_63, xl_64, xl_144, xl_250, xl_320, xl_720, xl_721, xl_1000, xl_1023, xl_1024, xv_lt, xv_eq, xv_in, xv_clamp, xv_add, xv_mul, xv_dec, xv_div, xv_mod, xv_m1, xv_m1', xv_and, xv_or, xv_shl, xv_shr, xv_bit0, xv_bit1, hn, hp, p6, if_true, hs' p p6, wd_fold, a4, j4 p p6 _ a3]
      refine k _ (xsm_xw (Or.inr (Or.inr (Or.inl rfl))) hJ) (by rw [xw_ne1 (by decide)]; exact j0) (by rw [xw_ne1 (by decide)]; exact j1) (fun k hk => by rw [xw_ne1 (by decide)]; exact j2 k hk) (fun k => by rw [xw_ne1 (by decide)]; exact j3 k) ?_
      intro q hq s hs8
      by_cases e : q * 8 + s = p * 8 + wd w p
      · have e1 : q = p := by omega
        have e2 : wd w p = s := by omega
        subst e1
        subst e2
        rw [xw_eq, if_neg (by omega), if_pos ⟨by omega, rfl⟩]
      · rw [xw_ne2 e, j4 q hq s hs8]
        congr 2
        by_cases c : q < p ∧ wd w q = s
        · rw [if_pos c, if_pos ⟨by omega, c.2⟩]
        · rw [if_neg c, if_neg (fun x => c ⟨by
            by_cases d : q = p
            · subst d; exact absurd (by rw [x.2]) e
            · omega, x.2⟩)]
    · intro J hJ j0 j1 j2 j3 j4
      refine g_X7_takePossible_35 (Nat.zero_le _) ?_
      have hn := (xTX_P hJ hX).1.1
      simp (disch := omega) only [xl_0, xl_1, xl_2, xl_3, xl_4, xl_5, xl_6, xl_7, xl_8, xl_9, xl_10, xl_15, xl_18, xl_24, xl_31, xl_32, xl_36, xl_40, xl_48, xl_63, xl_64, xl_144, xl_250, xl_320, xl_720, xl_721, xl_1000, xl_1023, xl_1024, xv_lt, xv_eq, xv_in, xv_clamp, xv_add, xv_mul, xv_dec, xv_div, xv_mod, xv_m1, xv_m1', xv_and, xv_or, xv_shl, xv_shr, xv_bit0, xv_bit1, hn, Nat.lt_irrefl, if_false]
      exact ⟨trivial, J, rfl, hJ, j0, j1, j2, j3, j4⟩
  refine key 0 (Nat.zero_le _) _ hJ0 (xw_eq _ _ _ _) (by rw [xw_ne1 (by decide), xw_eq]) (fun k hk => by rw [xw_ne1 (by decide), xw_ne2 hk]) (fun k => by rw [xw_ne1 (by decide), xw_ne1 (by decide)]) ?_
  intro q hq s hs8
  rw [xw_ne1 (by decide), xw_ne1 (by decide), hb q hq s hs8, if_neg (by omega), Nat.add_zero]
/-- what the class keeps of its worlds -/
def xAll (A : xAb) (I : xI) : Prop := I 37 0 = Int32.ofNat (aW A).length ∧ xLst I 38 (aW A)
def xPos (A : xAb) (I : xI) : Prop := I 37 1 = Int32.ofNat (aP A).length ∧ xLst I 39 (aP A) ∧ ∀ p, p < 6 → ∀ s, s < 8 → I 40 (p * 8 + s) = Int32.ofNat (aSt A p s)
theorem gd_filter_snoc {A : xAb} {l : List Nat} {i : Nat} (h : i < l.length) : (l.take (i + 1)).filter (aHas A) = if aHas A (l.getD i 0) = true then (l.take i).filter (aHas A) ++ [l.getD i 0] else (l.take i).filter (aHas A) := by
  rw [take_snoc h, List.filter_append]
  by_cases e : aHas A (l.getD i 0) = true
  · rw [if_pos e, List.filter_cons_of_pos e]; rfl
  · rw [if_neg e, List.filter_cons_of_neg e]; simp
theorem t_findPossible {A : xAb} {I : xI} {L : xL} {z : Bool × Bool × Nat} (hA : abOK A) (hX : xTX I 10 A) (hs : xShf I) (hW : xAll A I) : xCd 2 119 [.ref 37] (xS I L z) (fun r τ => r = none ∧ ∃ J, τ = xS J L z ∧ xsm scrP I J ∧ xPos A J) := by
  refine c_X7_findPossible (g_X7_findPossible_0 (by decide) ?_)
  have h6 := hA.1.2
  have hl := hA.2.2.2.2.2.2.2.2.1
  have hwl := (aW_len hA).2
  refine xuse (s_J7_fill (n := 6) rfl rfl rfl rfl (by decide)) (by decide) ?_
  rintro _ _ ⟨rfl, rfl⟩
  refine g_X7_findPossible_9 (by decide) ?_
  have hJ0 : xsm scrP I (xfil I 42 6 (63 : Int32)) := fun o k h => by
    unfold xfil
    exact if_neg fun q => h (Or.inr (Or.inr (Or.inr q.1)))
  -- what has the signs of a place
  have k82 : ∀ al : Nat → Nat, (∀ p, p < 6 → xBits (al p) (fun s => ∀ j, j < (ab_sign A).length → (ab_sign A).getD j 0 / 40 = p → aNum A ((ab_sign A).getD j 0 / 10 % 4) s = (ab_sign A).getD j 0 % 10)) → ∀ i, i ≤ (aW A).length → ∀ J : xI, xsm scrP I J → (∀ p, p < 6 → J 42 p = Int32.ofNat (al p)) → J 37 1 = Int32.ofNat (((aW A).take i).filter (aHas A)).length → xLst J 39 (((aW A).take i).filter (aHas A)) → (∀ p, p < 6 → ∀ s, s < 8 → J 40 (p * 8 + s) = Int32.ofNat (if p < ab_n A then (((aW A).take i).filter (aHas A)).countP (fun w => decide (wd w p = s)) else 0)) → h_X7_findPossible_82 1 (fun r τ => r = none ∧ ∃ J, τ = xS J L z ∧ xsm scrP I J ∧ xPos A J) (0, 0) J L z (Int32.ofNat i) := by
    intro al hal
    refine xcount _ (aW A).length ?_ ?_
    · intro i hi k J hJ j0 j1 j2 j3
      refine g_X7_findPossible_82 (by decide) ?_
      have hX' := xTX_P hJ hX
      have hs' : xShf J := xShf_sm hJ (fun k => by unfold scrP; omega) hs
      have e0 : J 37 0 = Int32.ofNat (aW A).length := (hJ _ _ (by unfold scrP; omega)).trans hW.1
      have e1 : J 38 i = Int32.ofNat ((aW A).getD i 0) := (hJ _ _ (by unfold scrP; omega)).trans (hW.2 i hi)
      have i7 : i < 720 := by omega
      have hmem := gd_mem hi
      simp (disch := omega) only [xl_0, xl_1, xl_2, xl_3, xl_4, xl_5, xl_6, xl_7, xl_8, xl_9, xl_10, xl_15, xl_18, xl_24, xl_31, xl_32, xl_36, xl_40, xl_48, xl_63, xl_64, xl_144, xl_250, xl_320, xl_720, xl_721, xl_1000, xl_1023, xl_1024, xv_lt, xv_eq, xv_in, xv_clamp, xv_add, xv_mul, xv_dec, xv_div, xv_mod, xv_m1, xv_m1', xv_and, xv_or, xv_shl, xv_shr, xv_bit0, xv_bit1, e0, hi, i7, if_true, e1]
      refine xuse (t_isAllowed hA hX' hs' hmem (fun p hp => ⟨j0 p hp, hal p hp⟩)) (by decide) ?_
      rintro _ _ ⟨rfl, rfl⟩
      refine g_X7_findPossible_109 (by decide) ?_
      have hfl : (((aW A).take i).filter (aHas A)).length ≤ i := Nat.le_trans (List.length_filter_le _ _) (by rw [List.length_take]; omega)
      have hsn := gd_filter_snoc (A := A) hi
      by_cases c : aHas A ((aW A).getD i 0) = true
      · rw [if_pos c] at hsn ⊢
        rw [if_neg (by decide), if_pos ((xv_in (by omega)).mpr i7), xv_clamp (by omega), e1]
        refine xuse (t_takePossible hA hX' hs' hmem j1 (by omega) j3) (by decide) ?_
        rintro _ _ ⟨rfl, J', rfl, q1, q2, q3, q4, q5, q6⟩
        refine g_X7_findPossible_122 (by decide) ?_
        rw [show Int32.ofNat i + 1 = Int32.ofNat (i + 1) from xv_add i 1]
        refine k J' (xsm_trans hJ q1) (fun p hp => (q5 p).trans (j0 p hp)) ?_ ?_ ?_
        · rw [hsn, List.length_append]; exact q2
        · intro t ht
          rw [hsn, List.length_append] at ht
          rw [hsn, gd_snoc]
          simp only [List.length_singleton] at ht
          by_cases e : t = (((aW A).take i).filter (aHas A)).length
          · rw [if_neg (by omega), if_pos e, e]; exact q3
          · rw [if_pos (by omega), q4 t e]; exact j2 t (by omega)
        · intro p hp s hs8
          rw [q6 p hp s hs8, hsn]
          congr 1
          by_cases pn : p < ab_n A
          · rw [if_pos pn, if_pos pn, List.countP_append]
            congr 1
            by_cases d : wd ((aW A).getD i 0) p = s
            · rw [if_pos ⟨pn, d⟩, List.countP_singleton, if_pos (decide_eq_true d)]
            · rw [if_neg (fun x => d x.2), List.countP_singleton, if_neg (by rw [decide_eq_false d]; decide)]
          · rw [if_neg pn, if_neg pn, if_neg (fun x => pn x.1)]
      · rw [if_neg c] at hsn ⊢
        rw [if_pos rfl]
        refine g_X7_findPossible_122 (by decide) ?_
        rw [show Int32.ofNat i + 1 = Int32.ofNat (i + 1) from xv_add i 1]
        rw [← hsn] at j1 j2 j3
        exact k J hJ j0 j1 j2 j3
    · intro J hJ j0 j1 j2 j3
      refine g_X7_findPossible_82 (by decide) ?_
      have e0 : J 37 0 = Int32.ofNat (aW A).length := (hJ _ _ (by unfold scrP; omega)).trans hW.1
      rw [List.take_length] at j1 j2 j3
      simp (disch := omega) only [xl_0, xl_1, xl_2, xl_3, xl_4, xl_5, xl_6, xl_7, xl_8, xl_9, xl_10, xl_15, xl_18, xl_24, xl_31, xl_32, xl_36, xl_40, xl_48, xl_63, xl_64, xl_144, xl_250, xl_320, xl_720, xl_721, xl_1000, xl_1023, xl_1024, xv_lt, xv_eq, xv_in, xv_clamp, xv_add, xv_mul, xv_dec, xv_div, xv_mod, xv_m1, xv_m1', xv_and, xv_or, xv_shl, xv_shr, xv_bit0, xv_bit1, e0, Nat.lt_irrefl, if_false]
      refine ⟨trivial, J, rfl, hJ, j1, j2, j3⟩
  have k11 : ∀ i, i ≤ (ab_sign A).length → ∀ J : xI, xsm scrP I J → ∀ al : Nat → Nat, (∀ p, p < 6 → J 42 p = Int32.ofNat (al p)) → (∀ p, p < 6 → xBits (al p) (fun s => ∀ j, j < i → (ab_sign A).getD j 0 / 40 = p → aNum A ((ab_sign A).getD j 0 / 10 % 4) s = (ab_sign A).getD j 0 % 10)) → h_X7_findPossible_11 1 (fun r τ => r = none ∧ ∃ J, τ = xS J L z ∧ xsm scrP I J ∧ xPos A J) (0, 0) J L z (Int32.ofNat i) := by
    refine xcount _ (ab_sign A).length ?_ ?_
    · intro i hi k J hJ al j0 j1
      refine g_X7_findPossible_11 (by decide) ?_
      have hX' := xTX_P hJ hX
      have e3 : J 10 3 = Int32.ofNat (ab_sign A).length := hX'.1.2.2.2.1
      have hv : J 16 i = Int32.ofNat ((ab_sign A).getD i 0) := hX'.2.2.2.2.2.2.1 i hi
      have hg := hl.2.1 _ (gd_mem hi)
      have ep : f_X6_placeOfSign J L (Int32.ofNat i) = Int32.ofNat ((ab_sign A).getD i 0 / 40) := by
        unfold f_X6_placeOfSign
        have q1 : i < 24 := by omega
        simp (disch := omega) only [xl_0, xl_1, xl_2, xl_3, xl_4, xl_5, xl_6, xl_7, xl_8, xl_9, xl_10, xl_15, xl_18, xl_24, xl_31, xl_32, xl_36, xl_40, xl_48, xl_63, xl_64, xl_144, xl_250, xl_320, xl_720, xl_721, xl_1000, xl_1023, xl_1024, xv_lt, xv_eq, xv_in, xv_clamp, xv_add, xv_mul, xv_dec, xv_div, xv_mod, xv_m1, xv_m1', xv_and, xv_or, xv_shl, xv_shr, xv_bit0, xv_bit1, Nat.not_lt_zero, q1, if_true, if_false, hv]
      have p6 : (ab_sign A).getD i 0 / 40 < 6 := by omega
      rw [ep]
      simp (disch := omega) only [xl_0, xl_1, xl_2, xl_3, xl_4, xl_5, xl_6, xl_7, xl_8, xl_9, xl_10, xl_15, xl_18, xl_24, xl_31, xl_32, xl_36, xl_40, xl_48, xl_63, xl_64, xl_144, xl_250, xl_320, xl_720, xl_721, xl_1000, xl_1023, xl_1024, xv_lt, xv_eq, xv_in, xv_clamp, xv_add, xv_mul, xv_dec, xv_div, xv_mod, xv_m1, xv_m1', xv_and, xv_or, xv_shl, xv_shr, xv_bit0, xv_bit1, e3, hi, p6, Nat.not_lt_zero, if_true, if_false]
      refine xuse (t_sortsWithSign hA hX' hi) (by decide) ?_
      rintro _ _ ⟨⟨m, hm, rfl⟩, rfl⟩
      refine g_X7_findPossible_59 (by decide) ?_
      simp (disch := omega) only [xl_0, xl_1, xl_2, xl_3, xl_4, xl_5, xl_6, xl_7, xl_8, xl_9, xl_10, xl_15, xl_18, xl_24, xl_31, xl_32, xl_36, xl_40, xl_48, xl_63, xl_64, xl_144, xl_250, xl_320, xl_720, xl_721, xl_1000, xl_1023, xl_1024, xv_lt, xv_eq, xv_in, xv_clamp, xv_add, xv_mul, xv_dec, xv_div, xv_mod, xv_m1, xv_m1', xv_and, xv_or, xv_shl, xv_shr, xv_bit0, xv_bit1, p6, if_true, j0 _ p6]
      refine k _ (xsm_xw (Or.inr (Or.inr (Or.inr rfl))) hJ) (fun p => if p = (ab_sign A).getD i 0 / 40 then al p &&& m else al p) ?_ ?_
      · intro p hp
        by_cases e : p = (ab_sign A).getD i 0 / 40
        · subst e; rw [xw_eq, if_pos rfl]
        · rw [xw_ne2 e, if_neg e]; exact j0 p hp
      · intro p hp
        obtain ⟨a1, a2⟩ := j1 p hp
        by_cases e : p = (ab_sign A).getD i 0 / 40
        · rw [if_pos e]
          refine ⟨Nat.lt_of_le_of_lt Nat.and_le_left a1, fun s hs6 => ?_⟩
          rw [Nat.testBit_and, Bool.and_eq_true, a2 s hs6, hm.2 s hs6]
          constructor
          · rintro ⟨x1, x2⟩ j hj hjp
            by_cases d : j = i
            · rw [d]; exact x2
            · exact x1 j (by omega) hjp
          · intro x
            exact ⟨fun j hj hjp => x j (by omega) hjp, x i (by omega) e.symm⟩
        · rw [if_neg e]
          refine ⟨a1, fun s hs6 => ?_⟩
          rw [a2 s hs6]
          constructor
          · intro x j hj hjp
            by_cases d : j = i
            · subst d; exact absurd hjp.symm e
            · exact x j (by omega) hjp
          · exact fun x j hj hjp => x j (by omega) hjp
    · intro J hJ al j0 j1
      refine g_X7_findPossible_11 (by decide) ?_
      have e3 : J 10 3 = Int32.ofNat (ab_sign A).length := (xTX_P hJ hX).1.2.2.2.1
      rw [e3, if_neg (fun q => Nat.lt_irrefl _ ((xv_lt (by omega) (by omega)).mp q))]
      refine xuse (s_J7_fill (n := 48) rfl rfl rfl rfl (by decide)) (by decide) ?_
      rintro _ _ ⟨rfl, rfl⟩
      refine g_X7_findPossible_75 (by decide) ?_
      refine k82 al j1 0 (Nat.zero_le _) _ (xsm_xw (Or.inl ⟨rfl, rfl⟩) (xsm_trans hJ fun o k h => ?_)) ?_ ?_ ?_ ?_
      · unfold xfil
        exact if_neg fun q => h (Or.inr (Or.inr (Or.inl q.1)))
      · intro p hp
        rw [xw_ne1 (by decide)]
        unfold xfil
        rw [if_neg (fun q => absurd q.1 (by decide))]
        exact j0 p hp
      · rw [xw_eq]; rfl
      · intro k hk; simp at hk
      · intro p hp s hs8
        rw [xw_ne1 (by decide)]
        unfold xfil
        rw [if_pos ⟨rfl, by omega⟩]
        simp
  refine k11 0 (Nat.zero_le _) _ hJ0 (fun _ => 63) ?_ ?_
  · intro p hp
    unfold xfil
    rw [if_pos ⟨rfl, hp⟩]; rfl
  · intro p hp
    refine ⟨by decide, fun s hs6 => ⟨fun _ j hj => absurd hj (Nat.not_lt_zero _), fun _ => ?_⟩⟩
    have : s = 0 ∨ s = 1 ∨ s = 2 ∨ s = 3 ∨ s = 4 ∨ s = 5 := by omega
    rcases this with rfl | rfl | rfl | rfl | rfl | rfl <;> decide
/-- the class's worlds are found, or will be -/
def xCache (A : xAb) (I : xI) : Prop := I 10 5 = 1 ∨ (I 10 5 = 0 ∧ xAll A I ∧ (I 10 6 = 1 ∨ (I 10 6 = 0 ∧ xPos A I)))
def xFresh (A : xAb) (I : xI) : Prop := I 10 5 = 0 ∧ I 10 6 = 0 ∧ xAll A I ∧ xPos A I
theorem t_refresh {A : xAb} {I : xI} {L : xL} {z : Bool × Bool × Nat} (hA : abOK A) (hX : xTX I 10 A) (hs : xShf I) (hc : xCache A I) : xCd 3 114 [.ref 37] (xS I L z) (fun r τ => r = none ∧ ∃ J, τ = xS J L z ∧ xsm scrW I J ∧ xFresh A J) := by
  refine c_X7_refresh (g_X7_refresh_0 (Nat.zero_le _) ?_)
  -- behind the worlds: the possible ones
  have k74 : ∀ J : xI, xsm scrW I J → J 10 5 = 0 → xAll A J → (J 10 6 = 1 ∨ (J 10 6 = 0 ∧ xPos A J)) → h_X7_refresh_74 2 (fun r τ => r = none ∧ ∃ J, τ = xS J L z ∧ xsm scrW I J ∧ xFresh A J) (0, 0) J L z := by
    intro J hJ j5 ja j6
    refine g_X7_refresh_74 (Nat.zero_le _) ?_
    have hX' := xTX_W hJ hX
    have hs' : xShf J := xShf_sm hJ (fun k => by unfold scrW; omega) hs
    rcases j6 with e | ⟨e, jp⟩
    · rw [if_neg (by rw [e]; decide)]
      have hX2 : xTX (xw J 10 6 0) 10 A := xTX_old (by decide) hX'
      have hs2 : xShf (xw J 10 6 0) := fun p hp => by rw [xw_ne1 (by decide)]; exact hs' p hp
      have ha2 : xAll A (xw J 10 6 0) := ⟨by rw [xw_ne1 (by decide)]; exact ja.1, fun i hi => by rw [xw_ne1 (by decide)]; exact ja.2 i hi⟩
      refine xuse (t_findPossible hA hX2 hs2 ha2) (by decide) ?_
      rintro _ _ ⟨rfl, K, rfl, q1, q2⟩
      refine g_X7_refresh_96 (Nat.zero_le _) ⟨rfl, K, rfl, ?_, ?_, ?_, ?_, q2⟩
      · exact xsm_trans (xsm_xw (Or.inl ⟨rfl, by decide⟩) hJ) (xsm_mono q1 (fun o j e => by unfold scrP at e; unfold scrW; omega))
      · rw [q1 _ _ (by unfold scrP; omega), xw_ne2 (by decide)]; exact j5
      · rw [q1 _ _ (by unfold scrP; omega), xw_eq]
      · refine ⟨?_, fun i hi => ?_⟩
        · rw [q1 _ _ (by unfold scrP; omega)]; exact ha2.1
        · rw [q1 _ _ (by unfold scrP; omega)]; exact ha2.2 i hi
    · rw [if_pos e]
      exact g_X7_refresh_96 (Nat.zero_le _) ⟨rfl, J, rfl, hJ, j5, e, ja, jp⟩
  rcases hc with e | ⟨e, ha, h6⟩
  · rw [if_neg (by rw [e]; decide)]
    have hJ0 : xsm scrW I (xw (xw (xw I 10 5 0) 10 6 1) 37 0 0) := xsm_xw (Or.inr ⟨by decide, by decide⟩) (xsm_xw (Or.inl ⟨rfl, by decide⟩) (xsm_xw (Or.inl ⟨rfl, by decide⟩) (xsm_refl _ _)))
    have hX' := xTX_W hJ0 hX
    have hs' : xShf (xw (xw (xw I 10 5 0) 10 6 1) 37 0 0) := xShf_sm hJ0 (fun k => by unfold scrW; omega) hs
    have e5 : (xw (xw (xw I 10 5 0) 10 6 1) 37 0 0) 10 5 = 0 := by rw [xw_ne1 (by decide), xw_ne2 (by decide), xw_eq]
    have e6 : (xw (xw (xw I 10 5 0) 10 6 1) 37 0 0) 10 6 = 1 := by rw [xw_ne1 (by decide), xw_eq]
    have e0 : (xw (xw (xw I 10 5 0) 10 6 1) 37 0 0) 37 0 = 0 := xw_eq _ _ _ _
    have el : (xw (xw (xw I 10 5 0) 10 6 1) 37 0 0) 10 1 = Int32.ofNat (ab_law A) := hX'.1.2.1
    have en : (xw (xw (xw I 10 5 0) 10 6 1) 37 0 0) 10 0 = Int32.ofNat (ab_n A) := hX'.1.1
    have l2 := hA.2.1
    generalize xw (xw (xw I 10 5 0) 10 6 1) 37 0 0 = J at *
    have fin : ∀ K : xI, xsm scrA J K → K 37 0 = Int32.ofNat (aW A).length → xLst K 38 (aW A) → h_X7_refresh_74 2 (fun r τ => r = none ∧ ∃ J, τ = xS J L z ∧ xsm scrW I J ∧ xFresh A J) (0, 0) K L z := fun K hK k0 k1 =>
      k74 K (xsm_trans hJ0 (xsm_mono hK (fun o j e => by unfold scrA at e; unfold scrW; omega))) (by rw [hK _ _ (by unfold scrA; omega)]; exact e5) ⟨k0, k1⟩ (Or.inl (by rw [hK _ _ (by unfold scrA; omega)]; exact e6))
    rw [el, en]
    by_cases c2 : ab_law A = 2
    · have ew : aW A = aMix A := if_pos c2
      rw [if_pos (by rw [c2]; rfl)]
      refine xuse (t_findMixed hA hX' hs') (by decide) ?_
      rintro _ _ ⟨rfl, K, rfl, q1, q2, q3⟩
      exact g_X7_refresh_46 (Nat.zero_le _) (fin K q1 (by rw [ew]; exact q2) (by rw [ew]; exact q3))
    · rw [if_neg (show ¬ Int32.ofNat (ab_law A) = (2 : Int32) from fun q => c2 ((xv_eq (b := 2) (by omega) (by decide)).mp q))]
      by_cases c0 : ab_law A = 0
      · have ew : aW A = aTurn A 1 := by unfold aW; rw [if_neg c2, if_pos c0]
        rw [if_pos (by rw [c0]; rfl)]
        refine xuse (t_findTurned (m := 1) hA hX' hs' (by have := hA.1.1; omega) e0) (by decide) ?_
        rintro _ _ ⟨rfl, K, rfl, q1, q2, q3⟩
        exact fin K q1 (by rw [ew]; exact q2) (by rw [ew]; exact q3)
      · have ew : aW A = aTurn A (ab_n A) := by unfold aW; rw [if_neg c2, if_neg c0]
        rw [if_neg (show ¬ Int32.ofNat (ab_law A) = (0 : Int32) from fun q => c0 ((xv_eq (b := 0) (by omega) (by decide)).mp q))]
        refine xuse (t_findTurned (m := ab_n A) hA hX' hs' (Nat.le_refl _) e0) (by decide) ?_
        rintro _ _ ⟨rfl, K, rfl, q1, q2, q3⟩
        exact fin K q1 (by rw [ew]; exact q2) (by rw [ew]; exact q3)
  · rw [if_pos e]
    exact k74 I (xsm_refl _ _) e ha h6
