/-! promises: a teller; and calls that change the shelves -/
def ab_tellTo (A : xAb) (k v : Nat) : xAb := (A.1, A.2.1, A.2.2.1, A.2.2.2.1, A.2.2.2.2.1, A.2.2.2.2.2.1, A.2.2.2.2.2.2.1, ab_tell A ++ [(k, v)])
theorem gdp_snoc {l : List (Nat × Nat)} {q : Nat × Nat} {i : Nat} (h : i ≤ l.length) : (l ++ [q]).getD i (0, 0) = if i = l.length then q else l.getD i (0, 0) := by
  rw [List.getD_eq_getElem?_getD, List.getD_eq_getElem?_getD]
  by_cases e : i = l.length
  · rw [if_pos e, e, List.getElem?_append_right (Nat.le_refl _), Nat.sub_self]; rfl
  · rw [if_neg e, List.getElem?_append_left (by omega)]
theorem tell_len {A : xAb} {k v : Nat} : (ab_tell (ab_tellTo A k v)).length = (ab_tell A).length + 1 := by
  show (ab_tell A ++ [(k, v)]).length = _
  rw [List.length_append]; rfl
theorem abOK_tell {A : xAb} {k v : Nat} (hA : abOK A) (h4 : (ab_tell A).length < 4) (hk : k < 6) (hv : v < 10) : abOK (ab_tellTo A k v) := by
  obtain ⟨k1, k2, k3, k4, k5, k6, k7, k8, k9, k10, k11⟩ := hA
  refine ⟨k1, k2, k3, k4, k5, k6, k7, k8, k9, by rw [tell_len]; omega, ?_⟩
  intro q hq
  rcases List.mem_append.mp (show q ∈ ab_tell A ++ [(k, v)] from hq) with hq | hq
  · exact k11 q hq
  · rw [List.mem_singleton.mp hq]; exact ⟨hk, hv⟩
theorem xTX_tell {I J : xI} {t k v : Nat} {A : xAb} (q : xTX I t A) (h0 : ∀ j, j < 4 → J t j = I t j) (h4 : J t 4 = Int32.ofNat ((ab_tell A).length + 1)) (fr : ∀ o, t < o ∧ o ≤ t + 6 → ∀ k, J o k = I o k) (h7 : ∀ j, J (t + 7) j = if j = (ab_tell A).length then Int32.ofNat k else I (t + 7) j) (h8 : ∀ j, J (t + 8) j = if j = (ab_tell A).length then Int32.ofNat v else I (t + 8) j) : xTX J t (ab_tellTo A k v) := by
  obtain ⟨⟨q1, q2, q3, q4, q5⟩, q6, q7, q8, q9, q10, q11, q12⟩ := q
  refine ⟨⟨(h0 0 (by decide)).trans q1, (h0 1 (by decide)).trans q2, (h0 2 (by decide)).trans q3, (h0 3 (by decide)).trans q4, ?_⟩, ?_, ?_, ?_, ?_, ?_, ?_, ?_⟩
  · rw [tell_len]; exact h4
  · intro k hk; rw [fr _ (by omega)]; exact q6 k hk
  · intro k hk; rw [fr _ (by omega)]; exact q7 k hk
  · intro s hs l hl; rw [fr _ (by omega)]; exact q8 s hs l hl
  · intro k hk; rw [fr _ (by omega)]; exact q9 k hk
  · intro k hk; rw [fr _ (by omega)]; exact q10 k hk
  · intro i hi; rw [fr _ (by omega)]; exact q11 i hi
  · intro i hi
    rw [tell_len] at hi
    show J (t + 7) i = Int32.ofNat ((ab_tell A ++ [(k, v)]).getD i (0, 0)).1 ∧ J (t + 8) i = Int32.ofNat ((ab_tell A ++ [(k, v)]).getD i (0, 0)).2
    rw [gdp_snoc (by omega), h7, h8]
    by_cases e : i = (ab_tell A).length
    · rw [if_pos e, if_pos e, if_pos e]; exact ⟨rfl, rfl⟩
    · rw [if_neg e, if_neg e, if_neg e]; exact q12 i (by omega)
theorem xTM_tell {I J : xI} {m k v : Nat} {A : xAb} (q : xTM I m A) (h0 : ∀ j, j ≠ 17 → J m j = I m j) (h4 : J m 17 = Int32.ofNat ((ab_tell A).length + 1)) (fr : ∀ o, m + 17 ≤ o ∧ o ≤ m + 34 → ∀ k, J o k = I o k) (h7 : ∀ j, J (m + 35) j = if j = (ab_tell A).length then Int32.ofNat k else I (m + 35) j) (h8 : ∀ j, J (m + 36) j = if j = (ab_tell A).length then Int32.ofNat v else I (m + 36) j) : xTM J m (ab_tellTo A k v) := by
  obtain ⟨⟨q1, q2, q3, q4⟩, q6, q7, q8, q9, q10, q11, q12⟩ := q
  refine ⟨⟨(h0 9 (by decide)).trans q1, (h0 10 (by decide)).trans q2, (h0 20 (by decide)).trans q3, ?_⟩, ?_, ?_, ?_, ?_, ?_, ?_, ?_⟩
  · rw [tell_len]; exact h4
  · intro k hk; rw [fr _ (by omega)]; exact q6 k hk
  · intro k hk; rw [fr _ (by omega)]; exact q7 k hk
  · intro s hs
    obtain ⟨q, r⟩ := q8 s hs
    exact ⟨fun l hl => by rw [fr _ (by omega)]; exact q l hl, by rw [fr _ (by omega)]; exact r⟩
  · intro k hk; rw [fr _ (by omega)]; exact q9 k hk
  · intro k hk; rw [fr _ (by omega)]; exact q10 k hk
  · intro p hp k hk; rw [fr _ (by omega)]; exact q11 p hp k hk
  · intro i hi
    rw [tell_len] at hi
    show J (m + 35) i = Int32.ofNat ((ab_tell A ++ [(k, v)]).getD i (0, 0)).1 ∧ J (m + 36) i = Int32.ofNat ((ab_tell A ++ [(k, v)]).getD i (0, 0)).2
    rw [gdp_snoc (by omega), h7, h8]
    by_cases e : i = (ab_tell A).length
    · rw [if_pos e, if_pos e, if_pos e]; exact ⟨rfl, rfl⟩
    · rw [if_neg e, if_neg e, if_neg e]; exact q12 i (by omega)
theorem pr_teller (a1 a2 : Int32) : xPq 145 215 [.int a1, .int a2] := by
  intro c A I L z hc h
  have hA := h.1.1
  have t4 := hA.2.2.2.2.2.2.2.2.2.1
  have m1 : ∀ J : xI, p_X9_in J L (Int32.toInt64 a1) (Int64.ofNat 0) (Int64.ofNat 5) ↔ (0 ≤ a1.toInt ∧ a1.toInt < (6 : Nat)) := fun J => xm_in (by decide) (by decide)
  have m2 : ∀ J : xI, p_X9_in J L (Int32.toInt64 a2) (Int64.ofNat 0) (Int64.ofNat 9) ↔ (0 ≤ a2.toInt ∧ a2.toInt < (10 : Nat)) := fun J => xm_in (by decide) (by decide)
  by_cases e : (0 ≤ a1.toInt ∧ a1.toInt < (6 : Nat)) ∧ (0 ≤ a2.toInt ∧ a2.toInt < (10 : Nat))
  · obtain ⟨e1, e2⟩ := e
    obtain ⟨k, hk, rfl⟩ := xr_nat e1
    obtain ⟨v, hv, rfl⟩ := xr_nat e2
    have n4 : I 10 4 = Int32.ofNat (ab_tell A).length := h.1.2.1.1.2.2.2.2
    by_cases f : (ab_tell A).length < 4
    · refine pr_c h (ab_tellTo A k v) (abOK_tell hA f hk hv) (Int32.ofNat (ab_tell A).length) ?_ ?_
      · refine xupD (c_X8_teller ?_) (by decide)
        have l4 : Int32.ofNat (ab_tell A).length < (4 : Int32) := (xv_lt (b := 4) (by omega) (by decide)).mpr f
        rw [if_pos (xi_tkind.mpr e1), if_pos (xi_number.mpr e2), n4, if_pos l4, if_neg (xv_neg (by omega)), if_pos l4, if_pos ((xv_in (by omega)).mpr f), if_pos ((xv_in (by omega)).mpr f), xv_clamp (by omega)]
        rw [xw_ne1 (o' := 10) (by decide), xw_ne1 (o' := 10) (by decide), n4, show Int32.ofNat (ab_tell A).length + 1 = Int32.ofNat ((ab_tell A).length + 1) from xv_add _ 1]
        obtain ⟨t, t1, t2⟩ := h.2.2.2.2
        refine ⟨rfl, _, rfl, ?_, ?_, ?_, ?_, t, by omega, ?_⟩
        · exact xsm_xw (by unfold scrXt; omega) (xsm_xw (by unfold scrXt; omega) (xsm_xw (by unfold scrXt; omega) (xsm_refl _ _)))
        · refine xTX_tell h.1.2.1 ?_ (xw_eq _ _ _ _) ?_ ?_ ?_
          · intro j hj; rw [xw_ne2 (by omega), xw_ne1 (by decide), xw_ne1 (by decide)]
          · intro o ho k; rw [xw_ne1 (by omega), xw_ne1 (by omega), xw_ne1 (by omega)]
          · intro j
            rw [xw_ne1 (by decide), xw_ne1 (by decide)]
            by_cases q : j = (ab_tell A).length
            · rw [if_pos q, q, xw_eq]
            · rw [if_neg q, xw_ne2 q]
          · intro j
            rw [xw_ne1 (by decide)]
            by_cases q : j = (ab_tell A).length
            · rw [if_pos q, q, xw_eq]
            · rw [if_neg q, xw_ne2 q, xw_ne1 (by decide)]
        · intro t h4 ht
          rw [n4] at ht
          rw [xw_eq]
          exact (xv_lt (by omega) (by omega)).mpr (by have := (xv_lt (by omega) (by omega)).mp ht; omega)
        · exact xCache_fr h.2.2.2.1 (aW_eq rfl rfl rfl) (aP_eq (aW_eq rfl rfl rfl) rfl rfl) rfl (by rw [xw_ne2 (by decide), xw_ne1 (by decide), xw_ne1 (by decide)]) (by rw [xw_ne2 (by decide), xw_ne1 (by decide), xw_ne1 (by decide)]) (fun o ho k => by rw [xw_ne1 (by omega), xw_ne1 (by omega), xw_ne1 (by omega)])
        · exact xTal_sm (S := fun o _ => o = 10 ∨ o = 17 ∨ o = 18) (xsm_xw (by omega) (xsm_xw (by omega) (xsm_xw (by omega) (xsm_refl _ _)))) (fun o k e => by omega) t2
      · intro J hJ _ hM
        refine xupD (c_X9_teller ?_) (by decide)
        have m4 : J 66 17 = Int32.ofNat (ab_tell A).length := hM.1.2.2.2
        have m5 : ∀ o (x : Int32), o ≠ 66 → ∀ k, xw J o k x 66 17 = Int32.ofNat (ab_tell A).length := fun o x e k => by rw [xw_ne1 (Ne.symm e)]; exact m4
        rw [if_pos ((m1 J).mpr e1), if_pos ((m2 J).mpr e2), m4, if_neg (fun q => by have := (xv_eq (b := 4) (by omega) (by decide)).mp q; omega), if_pos ((xv_in (by omega)).mpr f), xv_clamp (by omega), m5 101 _ (by decide), if_pos ((xv_in (by omega)).mpr f), xv_clamp (by omega)]
        have m6 : (xw (xw J 101 (ab_tell A).length (Int32.ofNat k)) 102 (ab_tell A).length (Int32.ofNat v)) 66 17 = Int32.ofNat (ab_tell A).length := by
          rw [xw_ne1 (by decide), xw_ne1 (by decide)]; exact m4
        rw [m6, xw_eq, show Int32.ofNat (ab_tell A).length + 1 = Int32.ofNat ((ab_tell A).length + 1) from xv_add _ 1, show Int32.ofNat ((ab_tell A).length + 1) - 1 = Int32.ofNat ((ab_tell A).length + 1 - 1) from xv_sub (b := 1) (by omega), Nat.add_sub_cancel]
        refine ⟨rfl, _, rfl, ?_, ?_⟩
        · exact xsm_xw (by unfold scrMt; omega) (xsm_xw (by unfold scrMt; omega) (xsm_xw (by unfold scrMt; omega) (xsm_refl _ _)))
        · refine xTM_tell hM ?_ (xw_eq _ _ _ _) ?_ ?_ ?_
          · intro j hj; rw [xw_ne2 hj, xw_ne1 (by decide), xw_ne1 (by decide)]
          · intro o ho k; rw [xw_ne1 (by omega), xw_ne1 (by omega), xw_ne1 (by omega)]
          · intro j
            rw [xw_ne1 (by decide), xw_ne1 (by decide)]
            by_cases q : j = (ab_tell A).length
            · rw [if_pos q, q, xw_eq]
            · rw [if_neg q, xw_ne2 q]
          · intro j
            rw [xw_ne1 (by decide)]
            by_cases q : j = (ab_tell A).length
            · rw [if_pos q, q, xw_eq]
            · rw [if_neg q, xw_ne2 q, xw_ne1 (by decide)]
    · have f4 : (ab_tell A).length = 4 := by omega
      refine pr_q h 6 0 ?_ ?_
      · refine xupD (c_X8_teller ?_) (by decide)
        rw [if_pos (xi_tkind.mpr e1), if_pos (xi_number.mpr e2), n4, f4, if_neg (by decide)]
        exact oX_no h (by decide) (by decide)
      · intro J hJ hM
        refine xupD (c_X9_teller ?_) (by decide)
        rw [if_pos ((m1 J).mpr e1), if_pos ((m2 J).mpr e2), hM.1.2.2.2, f4, if_pos (show Int32.ofNat 4 = (4 : Int32) from rfl)]
        exact oM_no (xsm_refl _ _) (by decide) (by decide)
  · refine pr_q h 2 0 ?_ ?_
    · exact xupD (c_X8_teller (no2 e xi_tkind xi_number (oX_no h (by decide) (by decide)))) (by decide)
    · intro J hJ hM
      exact xupD (c_X9_teller (no2 e (m1 J) (m2 J) (oM_no (xsm_refl _ _) (by decide) (by decide)))) (by decide)
