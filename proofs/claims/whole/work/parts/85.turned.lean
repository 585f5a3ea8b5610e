/-! promises: turned -/
/-- the first for which it holds -/
def fstP (P : Nat → Bool) : Nat → Nat → Int32
  | 0, _ => -1
  | m + 1, i => if P i = true then Int32.ofNat i else fstP P m (i + 1)
def tqn (A : xAb) (k : Nat) : Nat → Bool
  | 0 => true
  | i + 1 => tqn A k i && decide (aRot A k i = ab_stood A i)
theorem tqn_no {A : xAb} {k i : Nat} (e : aRot A k i ≠ ab_stood A i) : ∀ n, i < n → tqn A k n = false
  | 0, h => absurd h (Nat.not_lt_zero _)
  | n + 1, h => by
    by_cases d : i = n
    · subst d
      simp only [tqn]
      rw [decide_eq_false e, Bool.and_false]
    · simp only [tqn]
      rw [tqn_no e n (by omega), Bool.false_and]
theorem t_isTurned {A : xAb} {I : xI} {L : xL} {z : Bool × Bool × Nat} {k : Nat} (hA : abOK A) (hX : xTX I 10 A) (hk : k < ab_n A) : xCd 2 107 [.ref 10, .int (Int32.ofNat k)] (xS I L z) (qP I L z (if tqn A k (ab_n A) = true then 1 else 0)) := by
  refine c_X6_isTurnedSo (d := 1) (g_X6_isTurnedSo_0 (by decide) ?_)
  have h6 := hA.1.2
  have hn := hX.1.1
  have key : ∀ i, i ≤ ab_n A → tqn A k i = true → h_X6_isTurnedSo_2 1 (qP I L z (if tqn A k (ab_n A) = true then 1 else 0)) (0, 0) I L z (Int32.ofNat k) (Int32.ofNat i) := by
    refine xcount _ (ab_n A) ?_ ?_
    · intro i hi KK q
      refine g_X6_isTurnedSo_2 (by decide) ?_
      have i6 : i < 6 := by omega
      rw [hn, if_pos ((xv_lt (by omega) (by omega)).mpr hi), f_rot hA hn hX.2.1 hi hk]
      have e : f_X6_truthAt I L (Int32.ofNat i) = Int32.ofNat (ab_stood A i) := by
        unfold f_X6_truthAt
        rw [if_neg (xv_neg (by omega)), if_pos (show Int32.ofNat i < (6 : Int32) from (xv_lt (b := 6) (by omega) (by decide)).mpr i6), if_pos ((xv_in (by omega)).mpr i6), xv_clamp (by omega)]
        exact hX.2.2.1 i i6
      have r1 := aRot_lt hA (Nat.le_of_lt hk) hi
      have r2 := hA.2.2.2.1 i i6
      rw [e]
      by_cases d : aRot A k i = ab_stood A i
      · rw [if_pos (by rw [d]), show Int32.ofNat i + 1 = Int32.ofNat (i + 1) from xv_add i 1]
        refine KK ?_
        show (tqn A k i && decide _) = true
        rw [q, decide_eq_true d]; rfl
      · rw [if_neg (fun x => d ((xv_eq (by omega) (by omega)).mp x)), tqn_no d _ hi]
        exact ⟨rfl, rfl⟩
    · intro q
      refine g_X6_isTurnedSo_2 (by decide) ?_
      rw [hn, if_neg (fun q => absurd ((xv_lt (by omega) (by omega)).mp q) (Nat.lt_irrefl _)), q]
      exact ⟨rfl, rfl⟩
  exact key 0 (Nat.zero_le _) rfl
def aTd (A : xAb) (i : Nat) : Int32 := fstP (fun k => tqn A k (ab_n A)) (ab_n A - i) i
theorem aTd_at {A : xAb} {i : Nat} (h : i < ab_n A) : aTd A i = if tqn A i (ab_n A) = true then Int32.ofNat i else aTd A (i + 1) := by
  unfold aTd
  rw [show ab_n A - i = (ab_n A - (i + 1)) + 1 from by omega]
  rfl
theorem aTd_end {A : xAb} : aTd A (ab_n A) = -1 := by
  unfold aTd
  rw [Nat.sub_self]; rfl
theorem pr_turned : xPq 167 285 [] := by
  intro c A I L z hc h
  have hA := h.1.1
  have h6 := hA.1.2
  obtain ⟨t, t1, t2⟩ := h.2.2.2.2
  have okX : ∀ v, oX c A I L z 0 v (some (.int v)) (xS I L z) := fun v => oX_ok (xsm_refl _ _) h.2.2.2.1 t2 (by omega)
  refine pr_q h 0 (aTd A 0) ?_ ?_
  · refine c_X8_turned (d := 29) (g_X8_turned_0 (by decide) ?_)
    have hn := h.1.2.1.1.1
    have key : ∀ i, i ≤ ab_n A → aTd A i = aTd A 0 → h_X6_turnsToTruth_2 28 (qP I L z (aTd A 0)) (0, 0) I L z (Int32.ofNat i) := by
      refine xcount _ (ab_n A) ?_ ?_
      · intro i hi KK q
        refine g_X6_turnsToTruth_2 (by decide) ?_
        rw [hn, if_pos ((xv_lt (by omega) (by omega)).mpr hi)]
        refine xuse (t_isTurned hA h.1.2.1 hi) (by decide) ?_
        rintro _ _ ⟨rfl, rfl⟩
        refine g_X6_turnsToTruth_15 (by decide) ?_
        rw [aTd_at hi] at q
        by_cases d : tqn A i (ab_n A) = true
        · rw [if_pos d] at q ⊢
          rw [if_neg (by decide), q]
          exact ⟨rfl, rfl⟩
        · rw [if_neg d] at q ⊢
          rw [if_pos rfl, show Int32.ofNat i + 1 = Int32.ofNat (i + 1) from xv_add i 1]
          exact KK q
      · intro q
        refine g_X6_turnsToTruth_2 (by decide) ?_
        rw [hn, if_neg (fun q => absurd ((xv_lt (by omega) (by omega)).mp q) (Nat.lt_irrefl _))]
        rw [aTd_end] at q
        rw [← q]
        exact ⟨rfl, rfl⟩
    refine xuse (c_X6_turnsToTruth (d := 28) (g_X6_turnsToTruth_0 (by decide) (key 0 (Nat.zero_le _) rfl))) (by decide) ?_
    rintro _ _ ⟨rfl, rfl⟩
    exact g_X8_turned_7 (by decide) (okX _)
  · intro J hJ hM
    refine c_X9_turned (d := 29) (g_X9_turned_0 (by decide) ?_)
    have key : ∀ i, i ≤ ab_n A → aTd A i = aTd A 0 → ∀ K : xI, xsm (xAt 106) J K → h_X9_turned_2 29 (oM J L z 0 (aTd A 0)) (0, 0) K L z (Int32.ofNat i) := by
      refine xcount (fun i => aTd A i = aTd A 0 → ∀ K : xI, xsm (xAt 106) J K → h_X9_turned_2 29 (oM J L z 0 (aTd A 0)) (0, 0) K L z (Int32.ofNat i)) (ab_n A) ?_ ?_
      · intro i hi KK q K hK
        have kM : xTM K 66 A := xTM_sm hK (by unfold xAt; omega) (fun o a b k => by unfold xAt; omega) hM
        refine g_X9_turned_2 (by decide) ?_
        rw [kM.1.1, if_pos ((xv_lt (by omega) (by omega)).mpr hi)]
        refine xuse (t_turnNow hA kM hi) (by decide) ?_
        rintro _ _ ⟨rfl, N, rfl, hN, nr⟩
        refine g_X9_turned_15 (by decide) ?_
        have nM : xTM N 66 A := xTM_sm hN (by unfold xAt; omega) (fun o a b k => by unfold xAt; omega) kM
        have key2 : ∀ j, j ≤ ab_n A → h_X9_turned_19 29 (oM J L z 0 (aTd A 0)) (0, 0) N L z (Int32.ofNat i) (if tqn A i j = true then 1 else 0) (Int32.ofNat j) := by
          refine xcount _ (ab_n A) ?_ ?_
          · intro j hj K2
            refine g_X9_turned_19 (by decide) ?_
            have j6 : j < 6 := by omega
            have hs : N 84 j = Int32.ofNat (ab_stood A j) := nM.2.2.1 j hj
            have r1 := aRot_lt hA (Nat.le_of_lt hi) hj
            have r2 := hA.2.2.2.1 j j6
            rw [nM.1.1, if_pos ((xv_lt (by omega) (by omega)).mpr hj), if_pos ((xv_in (by omega)).mpr j6), xv_clamp (by omega), nr j hj, hs, show Int32.ofNat j + 1 = Int32.ofNat (j + 1) from xv_add j 1]
            have s1 : tqn A i (j + 1) = (tqn A i j && decide (aRot A i j = ab_stood A j)) := rfl
            rw [s1] at K2
            by_cases d : aRot A i j = ab_stood A j
            · rw [if_pos (by rw [d])]
              rw [decide_eq_true d, Bool.and_true] at K2
              have : ((if tqn A i j = true then 1 else 0 : Int32) &&& 1) = (if tqn A i j = true then 1 else 0) := by split <;> rfl
              rw [this]; exact K2
            · rw [if_neg (fun x => d ((xv_eq (by omega) (by omega)).mp x))]
              rw [decide_eq_false d, Bool.and_false, if_neg (by decide)] at K2
              have : ((if tqn A i j = true then 1 else 0 : Int32) &&& 0) = 0 := by split <;> rfl
              rw [this]; exact K2
          · refine g_X9_turned_19 (by decide) ?_
            rw [nM.1.1, if_neg (fun q => absurd ((xv_lt (by omega) (by omega)).mp q) (Nat.lt_irrefl _))]
            rw [aTd_at hi] at q
            have hJN := xsm_trans hK hN
            by_cases d : tqn A i (ab_n A) = true
            · rw [if_pos d] at q ⊢
              rw [if_neg (by decide), q]
              exact oM_ok (xsm_mono hJN (fun o k e => by unfold xAt at e; unfold scrM; omega))
            · rw [if_neg d] at q ⊢
              rw [if_pos rfl, show Int32.ofNat i + 1 = Int32.ofNat (i + 1) from xv_add i 1]
              exact KK q N hJN
        exact key2 0 (Nat.zero_le _)
      · intro q K hK
        have kM : xTM K 66 A := xTM_sm hK (by unfold xAt; omega) (fun o a b k => by unfold xAt; omega) hM
        refine g_X9_turned_2 (by decide) ?_
        rw [kM.1.1, if_neg (fun q => absurd ((xv_lt (by omega) (by omega)).mp q) (Nat.lt_irrefl _))]
        rw [aTd_end] at q
        rw [← q]
        exact oM_ok (xsm_mono hK (fun o k e => by unfold xAt at e; unfold scrM; omega))
    exact key 0 (Nat.zero_le _) rfl J (xsm_refl _ _)
