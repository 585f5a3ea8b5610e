theorem try_M {i : Nat} {B : xAb} {I : xI} {L : xL} {z : Bool × Bool × Nat} {C : Nat} : ∀ (c : Nat) (A : xAb), tryP i c A B → ∀ (j : Nat) (J : xI), j + c = C → C ≤ 24 → abOK A → i < (ab_tell A).length → xsm scrMt I J → xTM J 66 A → h_X9_tries_17 29 (oMc B I L z (Int32.ofNat C)) (0, 0) J L z (Int32.ofNat i) (Int32.ofNat j) := by
  intro c
  induction c with
  | zero =>
    rintro A ⟨rfl, q, hq, h⟩ j J hj hC hA hi hJ hM
    have hjC : j = C := by omega
    subst hjC
    refine g_X9_tries_17 (by decide) ?_
    refine xuse (t_sayM hA hM hi hq) (by decide) ?_
    rintro _ _ ⟨rfl, K, rfl, hK, _⟩
    refine g_X9_tries_22 (by decide) ?_
    have hIK : xsm scrMt I K := xsm_trans hJ (xsm_mono hK scrM_Mt)
    have kM : xTM K 66 A := xTM_sm hK (by unfold scrM; omega) (fun o a b k => by unfold scrM; omega) hM
    rcases h with e | ⟨p, k, hp, hk, e, hn⟩
    · rw [e, if_pos rfl]; exact ⟨rfl, K, rfl, hIK, kM⟩
    · have h6 := hA.1.2
      obtain ⟨s1, s2⟩ := s0_split (show p < 6 by omega) hk
      have s3 := s2
      rw [s1] at s3
      have qk := xis_known (I := K) (L := L) (z := z) (show p < 6 by omega)
      rw [e, if_neg (show ¬ Int32.ofNat (10 * p + k) = -1 by rw [lrm (by omega)]; exact id)]
      simp only [s1, s3, xv_clamp (show p < 2147483648 by omega), xv_clamp (show k < 2147483648 by omega)]
      rw [if_pos ((xv_in (by omega)).mpr (by omega))]
      refine xbifT qk.1 ?_
      rw [qk.2.2, if_pos ((xv_in (by omega)).mpr hk), xTM_known kM (by omega) hk, if_neg hn]
      exact ⟨rfl, K, rfl, hIK, kM⟩
  | succ c ih =>
    rintro A ⟨q, p, k, ⟨hq, hp, hk, hs, hn⟩, h⟩ j J hj hC hA hi hJ hM
    refine g_X9_tries_17 (by decide) ?_
    refine xuse (t_sayM hA hM hi hq) (by decide) ?_
    rintro _ _ ⟨rfl, K, rfl, hK, _⟩
    refine g_X9_tries_22 (by decide) ?_
    have hIK : xsm scrMt I K := xsm_trans hJ (xsm_mono hK scrM_Mt)
    have kM : xTM K 66 A := xTM_sm hK (by unfold scrM; omega) (fun o a b k => by unfold scrM; omega) hM
    have h6 := hA.1.2
    obtain ⟨s1, s2⟩ := s0_split (show p < 6 by omega) hk
    have s3 := s2
    rw [s1] at s3
    have hst := hA.2.2.2.1 p (show p < 6 by omega)
    have qk := fun K : xI => xis_known (I := K) (L := L) (z := z) (show p < 6 by omega)
    have qm := xis_mark (I := K) (L := L) (z := z) hst
    have c84 : K 84 p = Int32.ofNat (ab_stood A p) := kM.2.2.1 p hp
    have num := xTM_num kM hst hk
    obtain ⟨hv, h3⟩ := truth_num hA (show p < 6 by omega) hk
    have hk4 : xin (Int32.ofNat k) 4 := (xv_in (by omega)).mpr hk
    rw [hs, if_neg (show ¬ Int32.ofNat (10 * p + k) = -1 by rw [lrm (by omega)]; exact id)]
    simp only [s1, s3, xv_clamp (show p < 2147483648 by omega), xv_clamp (show k < 2147483648 by omega)]
    rw [if_pos ((xv_in (by omega)).mpr (by omega))]
    refine xbifT (qk K).1 ?_
    rw [(qk K).2.2, if_pos hk4, xTM_known kM (by omega) hk, if_pos hn, c84, if_pos ((xv_in (by omega)).mpr hst)]
    simp only [xv_clamp (show ab_stood A p < 2147483648 by omega)]
    refine xbifT qm.1 ?_
    rw [qm.2, if_pos hk4]
    refine xbifT (qk K).2.1 ?_
    refine xbifT (qk _).1 ?_
    rw [num, show Int32.ofNat j + 1 = Int32.ofNat (j + 1) from xv_add j 1]
    refine ih _ h (j + 1) _ (by omega) hC (lrn_ok hA hp hk) (by rw [lrn_tell]; exact hi) ?_ ?_
    · exact xsm_xw (by unfold scrMt; omega) hIK
    · exact (xTM_lrn (v := tnum A p k) (show p < 6 by omega) hk hv kM).1 hn
theorem pr_tries (a1 : Int32) : xPq 169 288 [.int a1] := by
  intro c A I L z hc h
  have hA := h.1.1
  by_cases e : 0 ≤ a1.toInt ∧ a1.toInt < ((ab_tell A).length : Int)
  · obtain ⟨i, hi, rfl⟩ := xr_nat e
    obtain ⟨B, C, hP⟩ := try_ex i (24 - (ab_sign A).length) A hA (by have := hA.2.2.2.2.2.2.2.2.1.1; omega)
    obtain ⟨hB, hC⟩ := try_ok C A hP hA
    obtain ⟨t, t1, t2⟩ := h.2.2.2.2
    refine pr_c h B hB (Int32.ofNat C) ?_ ?_
    · refine c_X8_tries (d := 29) (g_X8_tries_0 (by decide) ?_)
      rw [if_pos ((xi_teller hA h.1.2.1.1.2.2.2.2).mpr e)]
      exact try_X (tt := t) (by omega) C A hP 0 I (by omega) (by omega) hA hi (xsm_refl _ _) rfl h.1.2.1 h.2.1 h.2.2.2.1 t2
    · intro J hJ _ hM
      refine c_X9_tries (d := 29) (g_X9_tries_0 (by decide) ?_)
      rw [if_pos ((xm_teller hA hM.1.2.2.2).mpr e)]
      exact try_M C A hP 0 J (by omega) (by omega) hA hi (xsm_refl _ _) hM
  · refine pr_q h 2 0 ?_ ?_
    · refine c_X8_tries (d := 29) (g_X8_tries_0 (by decide) ?_)
      rw [if_neg (fun x => e ((xi_teller hA h.1.2.1.1.2.2.2.2).mp x))]
      exact oX_no h (by decide) (by decide)
    · intro J hJ hM
      refine c_X9_tries (d := 29) (g_X9_tries_0 (by decide) ?_)
      rw [if_neg (fun x => e ((xm_teller hA hM.1.2.2.2).mp x))]
      exact oM_no (xsm_refl _ _) (by decide) (by decide)
