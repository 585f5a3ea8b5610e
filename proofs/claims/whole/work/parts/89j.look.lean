/-! promises: look -/
def ab_lrn (A : xAb) (p k v : Nat) : xAb := if ab_known A p k = -1 then ab_signTo A p k v else A
theorem lrn_n (A : xAb) (p k v : Nat) : ab_n (ab_lrn A p k v) = ab_n A := by
  unfold ab_lrn; split <;> rfl
theorem lrn_W (A : xAb) (p k v : Nat) : aW (ab_lrn A p k v) = aW A := by
  unfold ab_lrn
  split
  · exact aW_eq rfl rfl rfl
  · rfl
theorem lrn_OK {A : xAb} {p k v : Nat} (hA : abOK A) (hp : p < ab_n A) (hk : k < 4) (hv : v < 10) (h3 : k = 3 → v < 6) : abOK (ab_lrn A p k v) := by
  unfold ab_lrn
  by_cases e : ab_known A p k = -1
  · rw [if_pos e]; exact (abOK_sign hA hp hk hv h3 e).2
  · rw [if_neg e]; exact hA
def scrLn : Nat → Nat → Prop := fun o k => (o = 10 ∧ (k = 3 ∨ k = 6)) ∨ o = 16
theorem t_learn {A : xAb} {I : xI} {L : xL} {z : Bool × Bool × Nat} {p k v : Nat} (hA : abOK A) (hX : xTX I 10 A) (hp : p < ab_n A) (hk : k < 4) (hv : v < 10) (h3 : k = 3 → v < 6) : xCd 2 100 [.ref 10, .int (Int32.ofNat p), .int (Int32.ofNat k), .int (Int32.ofNat v)] (xS I L z) (qV scrLn I L z 1 (fun J => xTX J 10 (ab_lrn A p k v) ∧ (xCache A I → xCache (ab_lrn A p k v) J))) := by
  have h6 := hA.1.2
  refine c_X6_learn (d := 1) (g_X6_learn_0 (by decide) ?_)
  refine xuse (t_knows hA hX (by omega) hk) (by decide) ?_
  rintro _ _ ⟨rfl, rfl⟩
  refine g_X6_learn_6 (by decide) ?_
  unfold ab_lrn
  by_cases kn : ab_known A p k = -1
  · obtain ⟨l24, _⟩ := abOK_sign hA hp hk hv h3 kn
    have n3 : I 10 3 = Int32.ofNat (ab_sign A).length := hX.1.2.2.2.1
    simp only [if_pos kn]
    rw [if_true, n3, if_neg (xv_neg (by omega)), if_pos (show Int32.ofNat (ab_sign A).length < (24 : Int32) from (xv_lt (b := 24) (by omega) (by decide)).mpr l24), if_pos ((xv_in (by omega)).mpr l24), xv_clamp (by omega), xw_ne1 (by decide), n3, show Int32.ofNat (ab_sign A).length + 1 = Int32.ofNat ((ab_sign A).length + 1) from xv_add _ 1]
    have sg : f_X6_signFor I L (Int32.ofNat p) (Int32.ofNat k) (Int32.ofNat v) = Int32.ofNat ((p * 4 + k) * 10 + v) := by
      unfold f_X6_signFor
      rw [show Int32.ofNat p * 4 = Int32.ofNat (p * 4) from xv_mul p 4, xv_add, show Int32.ofNat (p * 4 + k) * 10 = Int32.ofNat ((p * 4 + k) * 10) from xv_mul _ 10, xv_add]
    rw [sg]
    refine ⟨rfl, _, rfl, ?_, ?_, ?_⟩
    · exact xsm_xw (by unfold scrLn; omega) (xsm_xw (by unfold scrLn; omega) (xsm_xw (by unfold scrLn; omega) (xsm_refl _ _)))
    · refine xTX_signTo hX ?_ ?_ ?_ ?_ ?_
      · intro j a b; rw [xw_ne2 (by omega), xw_ne2 a, xw_ne1 (by decide)]
      · rw [xw_ne2 (by decide), xw_eq]
      · intro j hj; rw [xw_ne1 (by decide), xw_ne1 (by decide), xw_ne2 (by omega)]
      · rw [xw_ne1 (by decide), xw_ne1 (by decide), xw_eq]
      · intro o a b j; rw [xw_ne1 (by omega), xw_ne1 (by omega), xw_ne1 (by omega)]
    · intro hc
      exact xCache_pos hc (aW_eq rfl rfl rfl) (by rw [xw_ne2 (by decide), xw_ne2 (by decide), xw_ne1 (by decide)]) (xw_eq _ _ _ _) (fun o ho k => by rw [xw_ne1 (by omega), xw_ne1 (by omega), xw_ne1 (by omega)])
  · simp only [if_neg kn]
    rw [if_neg (show ¬ (1 : Int32) = 0 from by decide)]
    exact ⟨rfl, I, rfl, xsm_refl _ _, hX, fun x => x⟩
theorem f_truth {A : xAb} {I : xI} {L : xL} {p k : Nat} (hA : abOK A) (hX : xTX I 10 A) (hp : p < 6) (hk : k < 4) : f_X6_numberInTruth I L (Int32.ofNat p) (Int32.ofNat k) = Int32.ofNat (aNum A k (ab_stood A p)) := by
  unfold f_X6_numberInTruth
  have e : f_X6_truthAt I L (Int32.ofNat p) = Int32.ofNat (ab_stood A p) := by
    unfold f_X6_truthAt
    rw [if_neg (xv_neg (by omega)), if_pos (show Int32.ofNat p < (6 : Int32) from (xv_lt (b := 6) (by omega) (by decide)).mpr hp), if_pos ((xv_in (by omega)).mpr hp), xv_clamp (by omega)]
    exact hX.2.2.1 p hp
  rw [e]
  exact f_num hX hk (hA.2.2.2.1 p hp)
theorem xis_mark {I : xI} {L : xL} {z : Bool × Bool × Nat} {s : Nat} (hs : s < 6) : xisi (xS I L z) (85 + 1 + s) = true ∧ xlen z.2.2 (85 + 1 + s) = 4 := by
  have hk : s = 0 ∨ s = 1 ∨ s = 2 ∨ s = 3 ∨ s = 4 ∨ s = 5 := by omega
  obtain rfl | rfl | rfl | rfl | rfl | rfl := hk <;> exact ⟨rfl, rfl⟩
theorem truth_num {A : xAb} (hA : abOK A) {p k : Nat} (hp : p < 6) (hk : k < 4) : aNum A k (ab_stood A p) < 10 ∧ (k = 3 → aNum A k (ab_stood A p) < 6) := by
  have h := hA.2.2.2.1 p hp
  refine ⟨aNum_lt hA h hk, fun e => ?_⟩
  unfold aNum
  rw [if_pos e]; exact h
/-- the reference's look, when it is not known -/
theorem xTM_lrn {A : xAb} {I : xI} {m p k v : Nat} (hp : p < 6) (hk : k < 4) (hv : v < 10) (hM : xTM I m A) : (ab_known A p k = -1 → xTM (xw I (m + 29 + p) k (Int32.ofNat v)) m (ab_lrn A p k v)) ∧ (¬ ab_known A p k = -1 → xTM I m (ab_lrn A p k v)) := by
  unfold ab_lrn
  constructor
  · intro e; rw [if_pos e]; exact xTM_signTo hp hk hv e hM
  · intro e; rw [if_neg e]; exact hM
theorem pr_look (a1 a2 : Int32) : xPq 168 287 [.int a1, .int a2] := by
  intro c A I L z hc h
  have hA := h.1.1
  have h6 := hA.1.2
  have x1 : p_X6_hasPlace I L a1 ↔ (0 ≤ a1.toInt ∧ a1.toInt < (ab_n A : Int)) := xp_hasPlace h.1.2.1.1.1 hA.1.2
  have m1 : ∀ J : xI, xTM J 66 A → (p_X9_isPlace J L (Int32.toInt64 a1) ↔ (0 ≤ a1.toInt ∧ a1.toInt < (ab_n A : Int))) := fun J q => xp_isPlace q.1.1 hA.1.1 hA.1.2
  have m2 : ∀ J : xI, p_X9_in J L (Int32.toInt64 a2) (Int64.ofNat 0) (Int64.ofNat 3) ↔ (0 ≤ a2.toInt ∧ a2.toInt < (4 : Nat)) := fun J => xm_in (by decide) (by decide)
  obtain ⟨t, t1, t2⟩ := h.2.2.2.2
  by_cases e : (0 ≤ a1.toInt ∧ a1.toInt < (ab_n A : Int)) ∧ (0 ≤ a2.toInt ∧ a2.toInt < (4 : Nat))
  · obtain ⟨e1, e2⟩ := e
    obtain ⟨p, hp, rfl⟩ := xr_nat e1
    obtain ⟨k, hk, rfl⟩ := xr_nat e2
    obtain ⟨hv, h3⟩ := truth_num hA (show p < 6 by omega) hk
    refine pr_c h (ab_lrn A p k (aNum A k (ab_stood A p))) (lrn_OK hA hp hk hv h3) (Int32.ofNat (aNum A k (ab_stood A p))) ?_ ?_
    · refine c_X8_look (d := 29) (g_X8_look_0 (by decide) ?_)
      rw [if_pos (x1.mpr e1), if_pos (xi_kind.mpr e2), f_truth hA h.1.2.1 (by omega) hk]
      refine xuse (t_learn hA h.1.2.1 hp hk hv h3) (by decide) ?_
      rintro _ _ ⟨rfl, J, rfl, hJ, jX, jc⟩
      refine g_X8_look_45 (by decide) ?_
      rw [if_neg (show ¬ (1 : Int32) = 0 from by decide)]
      refine ⟨rfl, J, rfl, xsm_mono hJ (fun o k e => by unfold scrLn at e; unfold scrXt; omega), jX, ?_, jc h.2.2.2.1, t, by omega, xTal_sm hJ (fun o k e => by unfold scrLn at e; omega) t2⟩
      intro t _ ht
      rw [hJ 10 4 (by unfold scrLn; omega)]; exact ht
    · intro J hJ _ hM
      refine xupD (c_X9_look_ ?_) (by decide)
      have q := xis_known (I := J) (L := L) (z := z) (show p < 6 by omega)
      have hst := hA.2.2.2.1 p (show p < 6 by omega)
      have qm := fun K : xI => xis_mark (I := K) (L := L) (z := z) hst
      have hp6 : xin (Int32.ofNat p) 6 := (xv_in (by omega)).mpr (by omega)
      have hk4 : xin (Int32.ofNat k) 4 := (xv_in (by omega)).mpr hk
      have c84 : J 84 p = Int32.ofNat (ab_stood A p) := hM.2.2.1 p hp
      have hs6 : xin (Int32.ofNat (ab_stood A p)) 6 := (xv_in (by omega)).mpr hst
      have num := xTM_num hM hst hk
      obtain ⟨y1, y2⟩ := xTM_lrn (v := aNum A k (ab_stood A p)) (show p < 6 by omega) hk hv hM
      have cs := xv_clamp (show ab_stood A p < 2147483648 by omega)
      rw [if_pos ((m1 J hM).mpr e1), if_pos ((m2 J).mpr e2), if_pos hp6]
      simp only [xv_clamp (show p < 2147483648 by omega), xv_clamp (show k < 2147483648 by omega)]
      refine xbifT q.1 ?_
      rw [q.2.2, if_pos hk4, xTM_known hM (show p < 6 by omega) hk]
      by_cases kn : ab_known A p k = -1
      · rw [if_pos kn, if_pos hp6, if_pos hp6, c84, if_pos hs6, cs]
        refine xbifT (qm J).1 ?_
        rw [(qm J).2, if_pos hk4]
        refine xbifT q.2.1 ?_
        rw [if_pos hk4, if_pos hp6]
        refine xbifT (xis_known (show p < 6 by omega)).1 ?_
        rw [if_pos hk4, xw_eq, num]
        refine ⟨rfl, _, rfl, xsm_xw (by unfold scrMt; omega) (xsm_refl _ _), y1 kn⟩
      · rw [if_neg kn, if_pos hp6, c84, if_pos hs6, cs]
        refine xbifT (qm J).1 ?_
        rw [(qm J).2, if_pos hk4, num]
        exact ⟨rfl, J, rfl, xsm_refl _ _, y2 kn⟩
  · refine pr_q h 2 0 ?_ ?_
    · exact c_X8_look (d := 29) (g_X8_look_0 (by decide) (no2 e x1 xi_kind (oX_no h (by decide) (by decide))))
    · intro J hJ hM
      exact xupD (c_X9_look_ (no2 e (m1 J hM) (m2 J) (oM_no (xsm_refl _ _) (by decide) (by decide)))) (by decide)
