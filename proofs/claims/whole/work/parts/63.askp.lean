/-! promises: what is asked of the worlds -/
theorem xr_nat {a : Int32} {m : Nat} (h : 0 ≤ a.toInt ∧ a.toInt < (m : Int)) : ∃ v, v < m ∧ a = Int32.ofNat v := by
  obtain ⟨v, hv, e⟩ := xv_of (xv_nn h.1)
  refine ⟨v, ?_, e⟩
  have q := h.2
  rw [e, xv_int hv] at q
  omega
theorem ti_0 : (0 : Int32).toInt = 0 := rfl
theorem ti_1 : (1 : Int32).toInt = 1 := rfl
theorem ti_3 : (3 : Int32).toInt = 3 := rfl
theorem ti_4 : (4 : Int32).toInt = 4 := rfl
theorem ti_6 : (6 : Int32).toInt = 6 := rfl
theorem ti_9 : (9 : Int32).toInt = 9 := rfl
theorem ti_15 : (15 : Int32).toInt = 15 := rfl
theorem xi_either {I : xI} {L : xL} {a : Int32} : p_X8_isEither I L a ↔ (0 ≤ a.toInt ∧ a.toInt < (2 : Nat)) := by
  have e0 : a = 0 ↔ a.toInt = 0 := ⟨fun q => by rw [q]; rfl, fun q => Int32.toInt_inj.mp (by rw [q]; rfl)⟩
  have e1 : a = 1 ↔ a.toInt = 1 := ⟨fun q => by rw [q]; rfl, fun q => Int32.toInt_inj.mp (by rw [q]; rfl)⟩
  show (a = 0 ∨ a = 1) ↔ _
  rw [e0, e1]
  omega
theorem xi_kind {I : xI} {L : xL} {a : Int32} : p_X8_isSignKind I L a ↔ (0 ≤ a.toInt ∧ a.toInt < (4 : Nat)) := by
  show (¬ a < 0 ∧ a < 4) ↔ _
  simp only [Int32.lt_iff_toInt_lt, ti_0, ti_4]
  omega
theorem xm_in {I : xI} {L : xL} {a : Int32} {lo hi : Nat} (h1 : lo < 2147483648) (h2 : hi < 2147483648) : p_X9_in I L (Int32.toInt64 a) (Int64.ofNat lo) (Int64.ofNat hi) ↔ ((lo : Int) ≤ a.toInt ∧ a.toInt < ((hi + 1 : Nat) : Int)) := by
  rw [xp_in h1 h2]; omega
theorem pr_worlds (a1 : Int32) : xPq 151 245 [.int a1] := by
  intro c A I L z hc h
  have hA := h.1.1
  have m1 : ∀ J : xI, p_X9_in J L (Int32.toInt64 a1) (Int64.ofNat 0) (Int64.ofNat 1) ↔ (0 ≤ a1.toInt ∧ a1.toInt < (2 : Nat)) := fun J => xm_in (by decide) (by decide)
  by_cases e : 0 ≤ a1.toInt ∧ a1.toInt < (2 : Nat)
  · refine pr_q h 0 (if a1 = 0 then Int32.ofNat (aW A).length else Int32.ofNat (aP A).length) ?_ ?_
    · refine c_X8_worlds (d := 29) (g_X8_worlds_0 (by decide) ?_)
      rw [if_pos (xi_either.mpr e)]
      refine u_refresh h (by decide) ?_
      intro J t hJ hF hX hs ha t1 t2
      refine g_X8_worlds_21 (by decide) ?_
      rw [hF.2.2.1.1, hF.2.2.2.1]
      by_cases q : a1 = 0
      · rw [if_pos q, if_pos q]; exact oX_ok (xsm_mono hJ scrW_X) (xCache_of hF) t2 (by omega)
      · rw [if_neg q, if_neg q]; exact oX_ok (xsm_mono hJ scrW_X) (xCache_of hF) t2 (by omega)
    · intro J hJ hM
      refine c_X9_worlds (d := 29) (g_X9_worlds_0 (by decide) ?_)
      rw [if_pos ((m1 J).mpr e)]
      refine u_findP hA hM (by decide) ?_
      intro K hK hR hM'
      refine g_X9_worlds_21 (by decide) ?_
      rw [hR.1.1, hR.2.1]
      by_cases q : a1 = 0
      · rw [if_pos q, if_pos q]; exact oM_ok (xsm_mono hK scrF_M)
      · rw [if_neg q, if_neg q]; exact oM_ok (xsm_mono hK scrF_M)
  · refine pr_q h 2 0 ?_ ?_
    · refine c_X8_worlds (d := 29) (g_X8_worlds_0 (by decide) ?_)
      rw [if_neg (fun x => e (xi_either.mp x))]
      exact oX_no h (by decide) (by decide)
    · intro J hJ hM
      refine c_X9_worlds (d := 29) (g_X9_worlds_0 (by decide) ?_)
      rw [if_neg (fun x => e ((m1 J).mp x))]
      exact oM_no (xsm_refl _ _) (by decide) (by decide)
theorem f_possible {A : xAb} {I : xI} {L : xL} {i : Nat} (h : xPos A I) (hl : (aP A).length ≤ 720) (hi : i < (aP A).length) : f_X7_possibleOf I L (Int32.ofNat i) = Int32.ofNat ((aP A).getD i 0) := by
  unfold f_X7_possibleOf
  have q := h.2.1 i hi
  have c : i < 720 := by omega
  simp (disch := omega) only [xl_0, xl_1, xl_2, xl_3, xl_4, xl_5, xl_6, xl_7, xl_8, xl_9, xl_10, xl_15, xl_18, xl_24, xl_31, xl_32, xl_36, xl_40, xl_48, xl_63, xl_64, xl_144, xl_250, xl_320, xl_720, xl_721, xl_1000, xl_1023, xl_1024, xv_lt, xv_eq, xv_in, xv_clamp, xv_add, xv_mul, xv_dec, xv_div, xv_mod, xv_m1, xv_m1', xv_and, xv_or, xv_shl, xv_shr, xv_bit0, xv_bit1, Nat.not_lt_zero, c, h.1, hi, q, if_true, if_false]
theorem f_sortAt {I : xI} {L : xL} {w p : Nat} (hs : xShf I) (hw : w < 262144) (hp : p < 6) : f_X7_sortAt I L (Int32.ofNat w) (Int32.ofNat p) = Int32.ofNat (wd w p) := by
  unfold f_X7_sortAt
  simp (disch := omega) only [xl_0, xl_1, xl_2, xl_3, xl_4, xl_5, xl_6, xl_7, xl_8, xl_9, xl_10, xl_15, xl_18, xl_24, xl_31, xl_32, xl_36, xl_40, xl_48, xl_63, xl_64, xl_144, xl_250, xl_320, xl_720, xl_721, xl_1000, xl_1023, xl_1024, xv_lt, xv_eq, xv_in, xv_clamp, xv_add, xv_mul, xv_dec, xv_div, xv_mod, xv_m1, xv_m1', xv_and, xv_or, xv_shl, xv_shr, xv_bit0, xv_bit1, Nat.not_lt_zero, hp, hs p hp, wd_fold, if_true, if_false]
theorem pr_world (a1 a2 : Int32) : xPq 152 246 [.int a1, .int a2] := by
  intro c A I L z hc h
  have hA := h.1.1
  have h6 := hA.1.2
  have hl := aP_len hA
  have x2 : p_X6_hasPlace I L a2 ↔ (0 ≤ a2.toInt ∧ a2.toInt < (ab_n A : Int)) := xp_hasPlace h.1.2.1.1.1 hA.1.2
  have m2 : ∀ J : xI, xTM J 66 A → (p_X9_isPlace J L (Int32.toInt64 a2) ↔ (0 ≤ a2.toInt ∧ a2.toInt < (ab_n A : Int))) := fun J q => xp_isPlace q.1.1 hA.1.1 hA.1.2
  by_cases e : 0 ≤ a1.toInt ∧ (0 ≤ a2.toInt ∧ a2.toInt < (ab_n A : Int))
  · obtain ⟨i, hi, rfl⟩ := xv_of (xv_nn e.1)
    obtain ⟨p, hp, rfl⟩ := xr_nat e.2
    by_cases q : i < (aP A).length
    · refine pr_q h 0 (Int32.ofNat (wd ((aP A).getD i 0) p)) ?_ ?_
      · refine c_X8_world (d := 29) (g_X8_world_0 (by decide) ?_)
        rw [if_neg (xv_neg hi), if_pos (x2.mpr e.2)]
        refine u_refresh h (by decide) ?_
        intro J t hJ hF hX hs ha t1 t2
        refine g_X8_world_29 (by decide) ?_
        rw [f_possible hF.2.2.2 hl q, f_sortAt hs (aW_lt hA (aP_mem.mp (gd_mem q)).1) (by omega), hF.2.2.2.1, if_pos ((xv_lt (by omega) (by omega)).mpr q)]
        exact oX_ok (xsm_mono hJ scrW_X) (xCache_of hF) t2 (by omega)
      · intro J hJ hM
        refine c_X9_world (d := 29) (g_X9_world_0 (by decide) ?_)
        rw [if_neg (xv_neg hi), if_pos ((m2 J hM).mpr e.2)]
        refine u_findP hA hM (by decide) ?_
        intro K hK hR hM'
        refine g_X9_world_24 (by decide) ?_
        obtain ⟨x, y1, y2, y3, y4⟩ := xRef_at hA hR q hp
        have i7 : i < 720 := by omega
        simp (disch := omega) only [xl_0, xl_1, xl_2, xl_3, xl_4, xl_5, xl_6, xl_7, xl_8, xl_9, xl_10, xl_15, xl_18, xl_24, xl_31, xl_32, xl_36, xl_40, xl_48, xl_63, xl_64, xl_144, xl_250, xl_320, xl_720, xl_721, xl_1000, xl_1023, xl_1024, xv_lt, xv_eq, xv_in, xv_clamp, xv_add, xv_mul, xv_dec, xv_div, xv_mod, xv_m1, xv_m1', xv_and, xv_or, xv_shl, xv_shr, xv_bit0, xv_bit1, hR.2.1, q, i7, y2, y3, y4, if_true]
        exact oM_ok (xsm_mono hK scrF_M)
    · refine pr_q h 5 0 ?_ ?_
      · refine c_X8_world (d := 29) (g_X8_world_0 (by decide) ?_)
        rw [if_neg (xv_neg hi), if_pos (x2.mpr e.2)]
        refine u_refresh h (by decide) ?_
        intro J t hJ hF hX hs ha t1 t2
        refine g_X8_world_29 (by decide) ?_
        rw [hF.2.2.2.1, if_neg (fun x => q ((xv_lt hi (by omega)).mp x))]
        exact oX_no2 (xsm_mono hJ scrW_X) (xCache_of hF) t2 (by omega) (by decide) (by decide)
      · intro J hJ hM
        refine c_X9_world (d := 29) (g_X9_world_0 (by decide) ?_)
        rw [if_neg (xv_neg hi), if_pos ((m2 J hM).mpr e.2)]
        refine u_findP hA hM (by decide) ?_
        intro K hK hR hM'
        refine g_X9_world_24 (by decide) ?_
        rw [hR.2.1, if_neg (fun x => q ((xv_lt hi (by omega)).mp x))]
        exact oM_no (xsm_mono hK scrF_M) (by decide) (by decide)
  · refine pr_q h 2 0 ?_ ?_
    · refine c_X8_world (d := 29) (g_X8_world_0 (by decide) ?_)
      simp only [Int32.lt_iff_toInt_lt, ti_0, x2]
      (repeat' split) <;> first | exact oX_no h (by decide) (by decide) | (exfalso; omega)
    · intro J hJ hM
      refine c_X9_world (d := 29) (g_X9_world_0 (by decide) ?_)
      simp only [Int32.lt_iff_toInt_lt, ti_0, m2 J hM]
      (repeat' split) <;> first | exact oM_no (xsm_refl _ _) (by decide) (by decide) | (exfalso; omega)
theorem pr_sorts (a1 : Int32) : xPq 153 248 [.int a1] := by
  intro c A I L z hc h
  have hA := h.1.1
  have h6 := hA.1.2
  have x1 : p_X6_hasPlace I L a1 ↔ (0 ≤ a1.toInt ∧ a1.toInt < (ab_n A : Int)) := xp_hasPlace h.1.2.1.1.1 hA.1.2
  have m1 : ∀ J : xI, xTM J 66 A → (p_X9_isPlace J L (Int32.toInt64 a1) ↔ (0 ≤ a1.toInt ∧ a1.toInt < (ab_n A : Int))) := fun J q => xp_isPlace q.1.1 hA.1.1 hA.1.2
  by_cases e : 0 ≤ a1.toInt ∧ a1.toInt < (ab_n A : Int)
  · obtain ⟨p, hp, rfl⟩ := xr_nat e
    refine pr_q h 0 (Int32.ofNat (aSb A p 6)) ?_ ?_
    · refine c_X8_sorts (d := 29) (g_X8_sorts_0 (by decide) ?_)
      rw [if_pos (x1.mpr e)]
      refine u_refresh h (by decide) ?_
      intro J t hJ hF hX hs ha t1 t2
      refine g_X8_sorts_25 (by decide) ?_
      refine xuse (t_sortsAtX hA hF.2.2.2 (by omega)) (by decide) ?_
      rintro _ _ ⟨rfl, rfl⟩
      exact g_X8_sorts_33 (by decide) (oX_ok (xsm_mono hJ scrW_X) (xCache_of hF) t2 (by omega))
    · intro J hJ hM
      refine c_X9_sorts (d := 29) (g_X9_sorts_0 (by decide) ?_)
      rw [if_pos ((m1 J hM).mpr e)]
      refine u_findP hA hM (by decide) ?_
      intro K hK hR hM'
      refine g_X9_sorts_20 (by decide) ?_
      refine xuse (t_sortsAtM hA hR hp) (by decide) ?_
      rintro _ _ ⟨rfl, rfl⟩
      exact g_X9_sorts_25 (by decide) (oM_ok (xsm_mono hK scrF_M))
  · refine pr_q h 2 0 ?_ ?_
    · refine c_X8_sorts (d := 29) (g_X8_sorts_0 (by decide) ?_)
      rw [if_neg (fun x => e (x1.mp x))]
      exact oX_no h (by decide) (by decide)
    · intro J hJ hM
      refine c_X9_sorts (d := 29) (g_X9_sorts_0 (by decide) ?_)
      rw [if_neg (fun x => e ((m1 J hM).mp x))]
      exact oM_no (xsm_refl _ _) (by decide) (by decide)
theorem pr_known : xPq 155 251 [] := by
  intro c A I L z hc h
  have hA := h.1.1
  have h6 := hA.1.2
  refine pr_q h 0 (Int32.ofNat (aKb A (ab_n A))) ?_ ?_
  · refine c_X8_known (d := 29) (g_X8_known_0 (by decide) ?_)
    refine u_refresh h (by decide) ?_
    intro J t hJ hF hX hs ha t1 t2
    refine g_X8_known_7 (by decide) ?_
    refine xuse (t_knownX hA hX hF.2.2.2) (by decide) ?_
    rintro _ _ ⟨rfl, rfl⟩
    exact g_X8_known_14 (by decide) (oX_ok (xsm_mono hJ scrW_X) (xCache_of hF) t2 (by omega))
  · intro J hJ hM
    refine c_X9_known (d := 29) (g_X9_known_0 (by decide) ?_)
    refine u_findP hA hM (by decide) ?_
    intro K hK hR hM'
    refine g_X9_known_4 (by decide) ?_
    have nn := hM'.1.1
    have key : ∀ p, p ≤ ab_n A → h_X9_known_8 29 (oM J L z 0 (Int32.ofNat (aKb A (ab_n A)))) (0, 0) K L z (Int32.ofNat (aKb A p)) (Int32.ofNat p) := by
      refine xcount _ (ab_n A) ?_ ?_
      · intro p hp KK
        refine g_X9_known_8 (by decide) ?_
        rw [nn, if_pos ((xv_lt (by omega) (by omega)).mpr hp)]
        refine xuse (t_isKnownM hA hR hp) (by decide) ?_
        rintro _ _ ⟨⟨v, rfl, v1, _⟩, rfl⟩
        refine g_X9_known_22 (by decide) ?_
        have e1 : Int32.ofNat (aKb A p) ||| ((1 : Int32) <<< (Int32.ofNat p &&& 31)) = Int32.ofNat (aKb A p ||| 1 * 2 ^ p) := by
          simp (disch := omega) only [xl_0, xl_1, xl_2, xl_3, xl_4, xl_5, xl_6, xl_7, xl_8, xl_9, xl_10, xl_15, xl_18, xl_24, xl_31, xl_32, xl_36, xl_40, xl_48, xl_63, xl_64, xl_144, xl_250, xl_320, xl_720, xl_721, xl_1000, xl_1023, xl_1024, xv_lt, xv_eq, xv_in, xv_clamp, xv_add, xv_mul, xv_dec, xv_div, xv_mod, xv_m1, xv_m1', xv_and, xv_or, xv_shl, xv_shr, xv_bit0, xv_bit1]
        rw [e1, show Int32.ofNat p + 1 = Int32.ofNat (p + 1) from xv_add p 1, Int32.or_zero]
        simp only [aKb] at KK
        by_cases e : pcn (aSb A p 6) 6 ≤ 1
        · rw [if_pos e] at KK
          rw [if_neg (fun x => v1.mp x e)]
          exact KK
        · rw [if_neg e] at KK
          rw [if_pos (v1.mpr e)]
          exact KK
      · refine g_X9_known_8 (by decide) ?_
        rw [nn, if_neg (fun q => Nat.lt_irrefl _ ((xv_lt (by omega) (by omega)).mp q))]
        exact oM_ok (xsm_mono hK scrF_M)
    exact key 0 (by omega)
theorem pr_split (a1 a2 a3 : Int32) : xPq 156 254 [.int a1, .int a2, .int a3] := by
  intro c A I L z hc h
  have hA := h.1.1
  have h6 := hA.1.2
  have x1 : p_X6_hasPlace I L a1 ↔ (0 ≤ a1.toInt ∧ a1.toInt < (ab_n A : Int)) := xp_hasPlace h.1.2.1.1.1 hA.1.2
  have x2 : p_X8_isSignKind I L a2 ↔ (0 ≤ a2.toInt ∧ a2.toInt < (4 : Nat)) := xi_kind
  have x3 : p_X8_isEither I L a3 ↔ (0 ≤ a3.toInt ∧ a3.toInt < (2 : Nat)) := xi_either
  have m1 : ∀ J : xI, xTM J 66 A → (p_X9_isPlace J L (Int32.toInt64 a1) ↔ (0 ≤ a1.toInt ∧ a1.toInt < (ab_n A : Int))) := fun J q => xp_isPlace q.1.1 hA.1.1 hA.1.2
  have m2 : ∀ J : xI, p_X9_in J L (Int32.toInt64 a2) (Int64.ofNat 0) (Int64.ofNat 3) ↔ (0 ≤ a2.toInt ∧ a2.toInt < (4 : Nat)) := fun J => xm_in (by decide) (by decide)
  have m3 : ∀ J : xI, p_X9_in J L (Int32.toInt64 a3) (Int64.ofNat 0) (Int64.ofNat 1) ↔ (0 ≤ a3.toInt ∧ a3.toInt < (2 : Nat)) := fun J => xm_in (by decide) (by decide)
  by_cases e : (0 ≤ a1.toInt ∧ a1.toInt < (ab_n A : Int)) ∧ (0 ≤ a2.toInt ∧ a2.toInt < (4 : Nat)) ∧ (0 ≤ a3.toInt ∧ a3.toInt < (2 : Nat))
  · obtain ⟨p, hp, rfl⟩ := xr_nat e.1
    obtain ⟨k, hk, rfl⟩ := xr_nat e.2.1
    refine pr_q h 0 (if a3 = 0 then Int32.ofNat (aSplit A p k 10) else Int32.ofNat (aWorst A p k 10)) ?_ ?_
    · refine c_X8_split (d := 29) (g_X8_split_0 (by decide) ?_)
      rw [if_pos (x1.mpr e.1), if_pos (x2.mpr e.2.1), if_pos (x3.mpr e.2.2)]
      refine u_refresh h (by decide) ?_
      intro J t hJ hF hX hs ha t1 t2
      refine g_X8_split_39 (by decide) ?_
      by_cases q : a3 = 0
      · rw [if_pos q, if_pos q]
        refine xuse (t_splitX hA hX hF.2.2.2 hp hk) (by decide) ?_
        rintro _ _ ⟨rfl, rfl⟩
        exact g_X8_split_52 (by decide) (g_X8_split_64 (by decide) (oX_ok (xsm_mono hJ scrW_X) (xCache_of hF) t2 (by omega)))
      · rw [if_neg q, if_neg q]
        refine xuse (t_worstX hA hX hF.2.2.2 hp hk) (by decide) ?_
        rintro _ _ ⟨rfl, rfl⟩
        exact g_X8_split_64 (by decide) (oX_ok (xsm_mono hJ scrW_X) (xCache_of hF) t2 (by omega))
    · intro J hJ hM
      refine c_X9_split (d := 29) (g_X9_split_0 (by decide) ?_)
      rw [if_pos ((m1 J hM).mpr e.1), if_pos ((m2 J).mpr e.2.1), if_pos ((m3 J).mpr e.2.2)]
      refine u_findP hA hM (by decide) ?_
      intro K hK hR hM'
      refine g_X9_split_42 (by decide) ?_
      by_cases q : a3 = 0
      · rw [if_pos q, if_pos q]
        refine xuse (t_splitM hA hM' hR hp hk) (by decide) ?_
        rintro _ _ ⟨rfl, rfl⟩
        exact g_X9_split_52 (by decide) (g_X9_split_61 (by decide) (oM_ok (xsm_mono hK scrF_M)))
      · rw [if_neg q, if_neg q]
        refine xuse (t_worstM hA hM' hR hp hk) (by decide) ?_
        rintro _ _ ⟨rfl, rfl⟩
        exact g_X9_split_61 (by decide) (oM_ok (xsm_mono hK scrF_M))
  · refine pr_q h 2 0 ?_ ?_
    · refine c_X8_split (d := 29) (g_X8_split_0 (by decide) ?_)
      simp only [x1, x2, x3]
      (repeat' split) <;> first | exact oX_no h (by decide) (by decide) | (exfalso; omega)
    · intro J hJ hM
      refine c_X9_split (d := 29) (g_X9_split_0 (by decide) ?_)
      simp only [m1 J hM, m2 J, m3 J]
      (repeat' split) <;> first | exact oM_no (xsm_refl _ _) (by decide) (by decide) | (exfalso; omega)
theorem pr_next (a1 : Int32) : xPq 157 256 [.int a1] := by
  intro c A I L z hc h
  have hA := h.1.1
  have h6 := hA.1.2
  have hl := aP_len hA
  have m1 : ∀ J : xI, p_X9_in J L (Int32.toInt64 a1) (Int64.ofNat 1) (Int64.ofNat 15) ↔ (1 ≤ a1.toInt ∧ a1.toInt < (16 : Nat)) := fun J => xm_in (by decide) (by decide)
  by_cases e : 1 ≤ a1.toInt ∧ a1.toInt < (16 : Nat)
  · obtain ⟨k, hk, rfl⟩ := xr_nat (a := a1) (m := 16) (by omega)
    have c1 : ¬ Int32.ofNat k < 1 := fun q => by rw [Int32.lt_iff_toInt_lt, ti_1] at q; omega
    have c2 : ¬ 15 < Int32.ofNat k := fun q => by rw [Int32.lt_iff_toInt_lt, ti_15] at q; omega
    by_cases q : (aP A).length = 0
    · refine pr_q h 5 0 ?_ ?_
      · refine c_X8_next (d := 29) (g_X8_next_0 (by decide) ?_)
        rw [if_neg c1, if_neg c2]
        refine u_refresh h (by decide) ?_
        intro J t hJ hF hX hs ha t1 t2
        refine g_X8_next_25 (by decide) ?_
        rw [hF.2.2.2.1, q, if_pos (show Int32.ofNat 0 = (0 : Int32) from rfl)]
        exact oX_no2 (xsm_mono hJ scrW_X) (xCache_of hF) t2 (by omega) (by decide) (by decide)
      · intro J hJ hM
        refine c_X9_next (d := 29) (g_X9_next_0 (by decide) ?_)
        rw [if_pos ((m1 J).mpr e)]
        refine u_findP hA hM (by decide) ?_
        intro K hK hR hM'
        refine g_X9_next_23 (by decide) ?_
        rw [hR.2.1, q, if_pos (show Int32.ofNat 0 = (0 : Int32) from rfl)]
        exact g_X9_next_44 (by decide) (oM_no (xsm_mono hK scrF_M) (by decide) (by decide))
    · have q0 : ¬ Int32.ofNat (aP A).length = (0 : Int32) := fun x => q ((xv_eq (b := 0) (by omega) (by decide)).mp x)
      refine pr_q h 0 (nxA (aNx A k (ab_n A * 4))) ?_ ?_
      · refine c_X8_next (d := 29) (g_X8_next_0 (by decide) ?_)
        rw [if_neg c1, if_neg c2]
        refine u_refresh h (by decide) ?_
        intro J t hJ hF hX hs ha t1 t2
        refine g_X8_next_25 (by decide) ?_
        rw [hF.2.2.2.1, if_neg q0]
        refine xuse (t_nextX hA hX hF.2.2.2 hk) (by decide) ?_
        rintro _ _ ⟨rfl, rfl⟩
        exact g_X8_next_50 (by decide) (oX_ok (xsm_mono hJ scrW_X) (xCache_of hF) t2 (by omega))
      · intro J hJ hM
        refine c_X9_next (d := 29) (g_X9_next_0 (by decide) ?_)
        rw [if_pos ((m1 J).mpr e)]
        refine u_findP hA hM (by decide) ?_
        intro K hK hR hM'
        refine g_X9_next_23 (by decide) ?_
        rw [hR.2.1, if_neg q0]
        refine xuse (t_nextM hA hM' hR hk) (by decide) ?_
        rintro _ _ ⟨rfl, rfl⟩
        exact g_X9_next_44 (by decide) (oM_ok (xsm_mono hK scrF_M))
  · refine pr_q h 2 0 ?_ ?_
    · refine c_X8_next (d := 29) (g_X8_next_0 (by decide) ?_)
      simp only [Int32.lt_iff_toInt_lt, ti_1, ti_15]
      (repeat' split) <;> first | exact oX_no h (by decide) (by decide) | (exfalso; omega)
    · intro J hJ hM
      refine c_X9_next (d := 29) (g_X9_next_0 (by decide) ?_)
      rw [if_neg (fun x => e ((m1 J).mp x))]
      exact oM_no (xsm_refl _ _) (by decide) (by decide)
theorem pr_mind (a1 a2 : Int32) : xPq 164 278 [.int a1, .int a2] := by
  intro c A I L z hc h
  have hA := h.1.1
  have h6 := hA.1.2
  have x1 : p_X6_hasPlace I L a1 ↔ (0 ≤ a1.toInt ∧ a1.toInt < (ab_n A : Int)) := xp_hasPlace h.1.2.1.1.1 hA.1.2
  have x2 : p_X6_hasPlace I L a2 ↔ (0 ≤ a2.toInt ∧ a2.toInt < (ab_n A : Int)) := xp_hasPlace h.1.2.1.1.1 hA.1.2
  have m1 : ∀ J : xI, xTM J 66 A → (p_X9_isPlace J L (Int32.toInt64 a1) ↔ (0 ≤ a1.toInt ∧ a1.toInt < (ab_n A : Int))) := fun J q => xp_isPlace q.1.1 hA.1.1 hA.1.2
  have m2 : ∀ J : xI, xTM J 66 A → (p_X9_isPlace J L (Int32.toInt64 a2) ↔ (0 ≤ a2.toInt ∧ a2.toInt < (ab_n A : Int))) := fun J q => xp_isPlace q.1.1 hA.1.1 hA.1.2
  by_cases e : (0 ≤ a1.toInt ∧ a1.toInt < (ab_n A : Int)) ∧ (0 ≤ a2.toInt ∧ a2.toInt < (ab_n A : Int))
  · obtain ⟨g, hg, rfl⟩ := xr_nat e.1
    obtain ⟨p, hp, rfl⟩ := xr_nat e.2
    refine pr_q h 0 (Int32.ofNat (aMd A g p)) ?_ ?_
    · refine c_X8_mind (d := 29) (g_X8_mind_0 (by decide) ?_)
      rw [if_pos (x1.mpr e.1), if_pos (x2.mpr e.2)]
      refine u_refresh h (by decide) ?_
      intro J t hJ hF hX hs ha t1 t2
      refine g_X8_mind_36 (by decide) ?_
      rw [f_wrong hA hX hF.2.2.2 (by omega) hp]
      exact oX_ok (xsm_mono hJ scrW_X) (xCache_of hF) t2 (by omega)
    · intro J hJ hM
      refine c_X9_mind (d := 29) (g_X9_mind_0 (by decide) ?_)
      rw [if_pos ((m1 J hM).mpr e.1), if_pos ((m2 J hM).mpr e.2)]
      refine u_findP hA hM (by decide) ?_
      intro K hK hR hM'
      refine g_X9_mind_29 (by decide) ?_
      refine xuse (t_mindM hA hM' hR (by omega) hp) (by decide) ?_
      rintro _ _ ⟨rfl, rfl⟩
      exact g_X9_mind_35 (by decide) (oM_ok (xsm_mono hK scrF_M))
  · refine pr_q h 2 0 ?_ ?_
    · refine c_X8_mind (d := 29) (g_X8_mind_0 (by decide) ?_)
      simp only [x1, x2]
      (repeat' split) <;> first | exact oX_no h (by decide) (by decide) | (exfalso; omega)
    · intro J hJ hM
      refine c_X9_mind (d := 29) (g_X9_mind_0 (by decide) ?_)
      simp only [m1 J hM, m2 J hM]
      (repeat' split) <;> first | exact oM_no (xsm_refl _ _) (by decide) (by decide) | (exfalso; omega)
