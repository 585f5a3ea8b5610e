theorem xi_shelf {I : xI} {L : xL} {a : Int32} : p_X2_isShelf I L a ↔ (0 ≤ a.toInt ∧ a.toInt < (8 : Nat)) := by
  show (¬ a < 0 ∧ a < 8) ↔ _
  simp only [Int32.lt_iff_toInt_lt, ti_0, show (8 : Int32).toInt = 8 from rfl]
  omega
theorem xi_tkind {I : xI} {L : xL} {a : Int32} : p_X5_isKind I L a ↔ (0 ≤ a.toInt ∧ a.toInt < (6 : Nat)) := by
  show (¬ a < 0 ∧ a < 6) ↔ _
  simp only [Int32.lt_iff_toInt_lt, ti_0, ti_6]
  omega
theorem f_thing {I : xI} {L : xL} {s : Nat} (h : s < 8) : f_X2_thingOf I L (Int32.ofNat s) = I 58 s := by
  unfold f_X2_thingOf
  rw [if_pos (show p_X2_isShelf I L (Int32.ofNat s) from ⟨xv_neg (by omega), (xv_lt (b := 8) (by omega) (by decide)).mpr h⟩), if_pos ((xv_in (by omega)).mpr h), xv_clamp (by omega)]
theorem xr_eq {I J : xI} (h : xsm scrXr I J) {o : Nat} (ho : o = 67 ∨ o = 68 ∨ o = 69 ∨ o = 80) (k : Nat) : J o k = I o k := h o k (by unfold scrXr scrX; omega)
theorem pr_says (a1 a2 : Int32) : xPq 139 202 [.int a1, .int a2] := by
  intro c A I L z hc h
  have hA := h.1.1
  have t4 := hA.2.2.2.2.2.2.2.2.2.1
  obtain ⟨p, hp⟩ := fu_any hA
  have m1 : ∀ J : xI, p_X9_in J L (Int32.toInt64 a1) (Int64.ofNat 0) (Int64.ofNat 7) ↔ (0 ≤ a1.toInt ∧ a1.toInt < (8 : Nat)) := fun J => xm_in (by decide) (by decide)
  have m2 : ∀ J : xI, p_X9_in J L (Int32.toInt64 a2) (Int64.ofNat 0) (Int64.ofNat 5) ↔ (0 ≤ a2.toInt ∧ a2.toInt < (6 : Nat)) := fun J => xm_in (by decide) (by decide)
  by_cases e : (0 ≤ a1.toInt ∧ a1.toInt < (8 : Nat)) ∧ (0 ≤ a2.toInt ∧ a2.toInt < (6 : Nat))
  · obtain ⟨s, hs8, rfl⟩ := xr_nat e.1
    obtain ⟨v, hv6, rfl⟩ := xr_nat e.2
    have i8 : xin (Int32.ofNat s) 8 := (xv_in (by omega)).mpr hs8
    rcases h.1.2.2.2.1 s hs8 with ⟨g1, g2⟩ | ⟨w, n, b1, b2, g1, g2, g3, g4, g5, g6⟩ | ⟨t, b1, b2, g1, g2, g3⟩
    · refine pr_q h 4 0 ?_ ?_
      · refine c_X8_says (d := 29) (g_X8_says_0 (by decide) ?_)
        rw [if_pos (xi_shelf.mpr e.1), if_pos (xi_tkind.mpr e.2), f_thing hs8, g1, if_pos rfl]
        exact oX_no h (by decide) (by decide)
      · intro J hJ hM
        refine c_X9_says (d := 29) (g_X9_says_0 (by decide) ?_)
        have j67 : J 67 s = 0 := (xr_eq hJ (by omega) s).trans g2
        rw [if_pos ((m1 J).mpr e.1), if_pos ((m2 J).mpr e.2), if_pos i8, xv_clamp (by omega), j67, if_neg (by decide), if_neg (by decide), if_pos rfl]
        exact oM_no (xsm_refl _ _) (by decide) (by decide)
    · refine pr_q h 3 0 ?_ ?_
      · refine c_X8_says (d := 29) (g_X8_says_0 (by decide) ?_)
        have nw : ¬ Int32.ofNat w = (-1 : Int32) := fun x => by
          have := xv_m1 (a := w) (b := 1) (by omega) (by decide) (by decide)
          rw [show (-1 : Int32) = -(Int32.ofNat 1) from rfl, this] at x
          exact x
        have nt : ¬ p_X6_hasTeller I L (Int32.ofNat w - 10) := fun x => by
          have : w = 0 ∨ w = 1 ∨ w = 2 ∨ w = 3 ∨ w = 4 := by omega
          rcases this with rfl | rfl | rfl | rfl | rfl <;> exact absurd x.1 (by decide)
        rw [if_pos (xi_shelf.mpr e.1), if_pos (xi_tkind.mpr e.2), f_thing hs8, g1, if_neg nw, if_neg nt]
        exact oX_no h (by decide) (by decide)
      · intro J hJ hM
        refine c_X9_says (d := 29) (g_X9_says_0 (by decide) ?_)
        have j67 : J 67 s = 1 := (xr_eq hJ (by omega) s).trans g3
        rw [if_pos ((m1 J).mpr e.1), if_pos ((m2 J).mpr e.2), if_pos i8, xv_clamp (by omega), j67, if_pos rfl]
        exact oM_no (xsm_refl _ _) (by decide) (by decide)
    · have ht : t < (ab_tell A).length := by
        rw [h.1.2.1.1.2.2.2.2] at b2
        exact (xv_lt (by omega) (by omega)).mp b2
      obtain ⟨kd, a⟩ : ∃ q : Nat × Nat, q = (ab_tell A).getD t (0, 0) := ⟨_, rfl⟩
      have hmem : (ab_tell A).getD t (0, 0) ∈ ab_tell A := by
        rw [List.getD_eq_getElem?_getD, List.getElem?_eq_getElem ht]; exact List.getElem_mem ht
      obtain ⟨kb, ab⟩ := hA.2.2.2.2.2.2.2.2.2.2 _ hmem
      have e10 : Int32.ofNat (10 + t) - 10 = Int32.ofNat t := by
        rw [show (10 : Int32) = Int32.ofNat 10 from rfl, xv_sub (by omega), show 10 + t - 10 = t from by omega]
      have nw : ¬ Int32.ofNat (10 + t) = (-1 : Int32) := fun x => by
        have := xv_m1 (a := 10 + t) (b := 1) (by omega) (by decide) (by decide)
        rw [show (-1 : Int32) = -(Int32.ofNat 1) from rfl, this] at x
        exact x
      have pt : p_X6_hasTeller I L (Int32.ofNat t) := ⟨xv_neg (by omega), by rw [h.1.2.1.1.2.2.2.2]; exact (xv_lt (by omega) (by omega)).mpr ht, (xv_lt (b := 4) (by omega) (by decide)).mpr (by omega)⟩
      have it : xin (Int32.ofNat t) 4 := (xv_in (by omega)).mpr (by omega)
      have fk : f_X6_kindOf I L (Int32.ofNat t) = Int32.ofNat ((ab_tell A).getD t (0, 0)).1 := by
        unfold f_X6_kindOf
        rw [if_pos pt, if_pos it, xv_clamp (by omega)]; exact (h.1.2.1.2.2.2.2.2.2.2 t ht).1
      have fn : f_X6_tellerNumberOf I L (Int32.ofNat t) = Int32.ofNat ((ab_tell A).getD t (0, 0)).2 := by
        unfold f_X6_tellerNumberOf
        rw [if_pos pt, if_pos it, xv_clamp (by omega)]; exact (h.1.2.1.2.2.2.2.2.2.2 t ht).2
      by_cases u : v ∈ anc ((ab_tell A).getD t (0, 0)).1
      · by_cases v0 : v = 0
        · subst v0
          refine pr_q h 0 (Int32.ofNat ((ab_tell A).getD t (0, 0)).2) ?_ ?_
          · refine c_X8_says (d := 29) (g_X8_says_0 (by decide) ?_)
            rw [if_pos (xi_shelf.mpr e.1), if_pos (xi_tkind.mpr e.2), f_thing hs8, g1, if_neg nw, e10, if_pos pt, fk]
            refine xuse (t_isUnder h.2.2.1 kb hv6) (by decide) ?_
            rintro _ _ ⟨rfl, rfl⟩
            refine g_X8_says_73 (by decide) ?_
            rw [if_pos u, if_neg (by decide), if_pos (show Int32.ofNat 0 = (0 : Int32) from rfl), fn]
            obtain ⟨tt, t1, t2⟩ := h.2.2.2.2
            exact oX_ok (xsm_refl _ _) h.2.2.2.1 t2 (by omega)
          · intro J hJ hM
            refine c_X9_says (d := 29) (g_X9_says_0 (by decide) ?_)
            have j67 : J 67 s = 2 := (xr_eq hJ (by omega) s).trans g2
            have j80 : J 80 s = Int32.ofNat t := (xr_eq hJ (by omega) s).trans g3
            have j101 : J 101 t = Int32.ofNat ((ab_tell A).getD t (0, 0)).1 := (hM.2.2.2.2.2.2.2 t ht).1
            have j102 : J 102 t = Int32.ofNat ((ab_tell A).getD t (0, 0)).2 := (hM.2.2.2.2.2.2.2 t ht).2
            have un : p_X9_isUnder J L (Int32.ofNat ((ab_tell A).getD t (0, 0)).1) (Int32.ofNat 0) := (und_m _ kb 0 hv6).mpr u
            rw [if_pos ((m1 J).mpr e.1), if_pos ((m2 J).mpr e.2), if_pos i8, xv_clamp (by omega), j67, if_neg (by decide), if_pos rfl, j80, if_pos it, xv_clamp (by omega), j101, if_pos un, if_neg (by decide), if_pos (show Int32.ofNat 0 = (0 : Int32) from rfl), j102]
            exact g_X9_says_120 (by decide) (oM_ok (xsm_refl _ _))
        · have v0' : ¬ Int32.ofNat v = (0 : Int32) := fun q => v0 ((xv_eq (b := 0) (by omega) (by decide)).mp q)
          refine pr_q h 0 (aSay A ((ab_tell A).getD t (0, 0)).1 ((ab_tell A).getD t (0, 0)).2 p) ?_ ?_
          · refine c_X8_says (d := 29) (g_X8_says_0 (by decide) ?_)
            rw [if_pos (xi_shelf.mpr e.1), if_pos (xi_tkind.mpr e.2), f_thing hs8, g1, if_neg nw, e10, if_pos pt, fk]
            refine xuse (t_isUnder h.2.2.1 kb hv6) (by decide) ?_
            rintro _ _ ⟨rfl, rfl⟩
            refine g_X8_says_73 (by decide) ?_
            rw [if_pos u, if_neg (by decide), if_neg v0']
            refine u_refresh h (by decide) ?_
            intro J t' hJ hF hX hs ha t1 t2
            refine g_X8_says_104 (by decide) ?_
            refine xuse (t_sayX hA hX hF.2.2.2 ht hp) (by decide) ?_
            rintro _ _ ⟨rfl, K, rfl, k0, _⟩
            refine g_X8_says_113 (by decide) (oX_ok (xsm_trans (xsm_mono hJ scrW_X) (xsm_mono k0 (fun o k e => by unfold scrB at e; unfold scrX; omega))) (xCache_of (xFresh_sm k0 (fun o k e => by unfold scrB at e; unfold noC; omega) hF)) (xTal_sm k0 (fun o k e => by unfold scrB at e; omega) t2) (by omega))
          · intro J hJ hM
            refine c_X9_says (d := 29) (g_X9_says_0 (by decide) ?_)
            have j67 : J 67 s = 2 := (xr_eq hJ (by omega) s).trans g2
            have j80 : J 80 s = Int32.ofNat t := (xr_eq hJ (by omega) s).trans g3
            have j101 : J 101 t = Int32.ofNat ((ab_tell A).getD t (0, 0)).1 := (hM.2.2.2.2.2.2.2 t ht).1
            have un : p_X9_isUnder J L (Int32.ofNat ((ab_tell A).getD t (0, 0)).1) (Int32.ofNat v) := (und_m _ kb v hv6).mpr u
            rw [if_pos ((m1 J).mpr e.1), if_pos ((m2 J).mpr e.2), if_pos i8, xv_clamp (by omega), j67, if_neg (by decide), if_pos rfl, j80, if_pos it, xv_clamp (by omega), j101, if_pos un, if_neg (by decide), if_neg v0']
            refine xuse (t_sayM hA hM ht hp) (by decide) ?_
            rintro _ _ ⟨rfl, K, rfl, k0, _⟩
            exact g_X9_says_120 (by decide) (oM_ok k0)
      · refine pr_q h 3 0 ?_ ?_
        · refine c_X8_says (d := 29) (g_X8_says_0 (by decide) ?_)
          rw [if_pos (xi_shelf.mpr e.1), if_pos (xi_tkind.mpr e.2), f_thing hs8, g1, if_neg nw, e10, if_pos pt, fk]
          refine xuse (t_isUnder h.2.2.1 kb hv6) (by decide) ?_
          rintro _ _ ⟨rfl, rfl⟩
          refine g_X8_says_73 (by decide) ?_
          rw [if_neg u, if_pos rfl]
          exact oX_no h (by decide) (by decide)
        · intro J hJ hM
          refine c_X9_says (d := 29) (g_X9_says_0 (by decide) ?_)
          have j67 : J 67 s = 2 := (xr_eq hJ (by omega) s).trans g2
          have j80 : J 80 s = Int32.ofNat t := (xr_eq hJ (by omega) s).trans g3
          have j101 : J 101 t = Int32.ofNat ((ab_tell A).getD t (0, 0)).1 := (hM.2.2.2.2.2.2.2 t ht).1
          have un : ¬ p_X9_isUnder J L (Int32.ofNat ((ab_tell A).getD t (0, 0)).1) (Int32.ofNat v) := fun x => u ((und_m _ kb v hv6).mp x)
          rw [if_pos ((m1 J).mpr e.1), if_pos ((m2 J).mpr e.2), if_pos i8, xv_clamp (by omega), j67, if_neg (by decide), if_pos rfl, j80, if_pos it, xv_clamp (by omega), j101, if_neg un]
          exact oM_no (xsm_refl _ _) (by decide) (by decide)
  · refine pr_q h 2 0 ?_ ?_
    · refine c_X8_says (d := 29) (g_X8_says_0 (by decide) ?_)
      by_cases q : 0 ≤ a1.toInt ∧ a1.toInt < (8 : Nat)
      · rw [if_pos (xi_shelf.mpr q), if_neg (fun x => e ⟨q, xi_tkind.mp x⟩)]
        exact oX_no h (by decide) (by decide)
      · rw [if_neg (fun x => q (xi_shelf.mp x))]
        exact oX_no h (by decide) (by decide)
    · intro J hJ hM
      refine c_X9_says (d := 29) (g_X9_says_0 (by decide) ?_)
      by_cases q : 0 ≤ a1.toInt ∧ a1.toInt < (8 : Nat)
      · rw [if_pos ((m1 J).mpr q), if_neg (fun x => e ⟨q, (m2 J).mp x⟩)]
        exact oM_no (xsm_refl _ _) (by decide) (by decide)
      · rw [if_neg (fun x => q ((m1 J).mp x))]
        exact oM_no (xsm_refl _ _) (by decide) (by decide)
