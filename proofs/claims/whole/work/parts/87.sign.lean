theorem xi_seen {I : xI} {L : xL} {a2 a3 : Int32} : (p_X8_canBeSeen I L a2 a3) ↔ ((0 ≤ a2.toInt ∧ a2.toInt < (4 : Nat)) ∧ (0 ≤ a3.toInt ∧ a3.toInt < (10 : Nat)) ∧ (a2.toInt = 3 → a3.toInt < 6)) := by
  have e3 : a2 = 3 ↔ a2.toInt = 3 := ⟨fun q => by rw [q]; rfl, fun q => Int32.toInt_inj.mp (by rw [q]; rfl)⟩
  unfold p_X8_canBeSeen
  rw [xi_sort, xi_look, xi_number, e3]
  omega
theorem xm_seen {I : xI} {L : xL} {a2 a3 : Int32} : (p_X9_in I L (Int32.toInt64 a2) (Int64.ofNat 0) (Int64.ofNat 3) ∧ p_X9_mayBe I L a2 a3) ↔ ((0 ≤ a2.toInt ∧ a2.toInt < (4 : Nat)) ∧ (0 ≤ a3.toInt ∧ a3.toInt < (10 : Nat)) ∧ (a2.toInt = 3 → a3.toInt < 6)) := by
  have e3 : a2 = 3 ↔ a2.toInt = 3 := ⟨fun q => by rw [q]; rfl, fun q => Int32.toInt_inj.mp (by rw [q]; rfl)⟩
  unfold p_X9_mayBe
  rw [xm_in (by decide) (by decide), xm_in (by decide) (by decide), xm_in (by decide) (by decide), e3]
  omega
theorem xTX_signTo {I J : xI} {t p k v : Nat} {A : xAb} (q : xTX I t A) (h0 : ∀ j, j ≠ 3 → j < 5 → J t j = I t j) (h3 : J t 3 = Int32.ofNat ((ab_sign A).length + 1)) (h6 : ∀ j, j < (ab_sign A).length → J (t + 6) j = I (t + 6) j) (h7 : J (t + 6) (ab_sign A).length = Int32.ofNat ((p * 4 + k) * 10 + v)) (fr : ∀ o, t < o ∧ o ≤ t + 8 → o ≠ t + 6 → ∀ k, J o k = I o k) : xTX J t (ab_signTo A p k v) := by
  obtain ⟨⟨q1, q2, q3, q4, q5⟩, q6, q7, q8, q9, q10, q11, q12⟩ := q
  have hl : (ab_sign A ++ [(p * 4 + k) * 10 + v]).length = (ab_sign A).length + 1 := by rw [List.length_append]; rfl
  refine ⟨⟨(h0 0 (by decide) (by decide)).trans q1, (h0 1 (by decide) (by decide)).trans q2, (h0 2 (by decide) (by decide)).trans q3, ?_, (h0 4 (by decide) (by decide)).trans q5⟩, ?_, ?_, ?_, ?_, ?_, ?_, ?_⟩
  · show _ = Int32.ofNat (ab_sign A ++ [(p * 4 + k) * 10 + v]).length
    rw [hl]; exact h3
  · intro k hk; rw [fr _ (by omega) (by omega)]; exact q6 k hk
  · intro k hk; rw [fr _ (by omega) (by omega)]; exact q7 k hk
  · intro s hs l hl; rw [fr _ (by omega) (by omega)]; exact q8 s hs l hl
  · intro k hk; rw [fr _ (by omega) (by omega)]; exact q9 k hk
  · intro k hk; rw [fr _ (by omega) (by omega)]; exact q10 k hk
  · intro i hi
    have hi : i < (ab_sign A ++ [(p * 4 + k) * 10 + v]).length := hi
    show _ = Int32.ofNat ((ab_sign A ++ [(p * 4 + k) * 10 + v]).getD i 0)
    rw [gd_snoc]
    by_cases e : i < (ab_sign A).length
    · rw [if_pos e, h6 i e]; exact q11 i e
    · have : i = (ab_sign A).length := by omega
      rw [if_neg e, if_pos this, this]; exact h7
  · intro k hk; rw [fr _ (by omega) (by omega), fr _ (by omega) (by omega)]; exact q12 k hk
theorem xTM_signTo {I : xI} {m p k v : Nat} {A : xAb} (hp : p < 6) (hk : k < 4) (hv : v < 10) (hn : ab_known A p k = -1) (q : xTM I m A) : xTM (xw I (m + 29 + p) k (Int32.ofNat v)) m (ab_signTo A p k v) := by
  obtain ⟨⟨q1, q2, q3, q4⟩, q6, q7, q8, q9, q10, q11, q12⟩ := q
  refine ⟨⟨?_, ?_, ?_, ?_⟩, ?_, ?_, ?_, ?_, ?_, ?_, ?_⟩
  · rw [xw_ne1 (by omega)]; exact q1
  · rw [xw_ne1 (by omega)]; exact q2
  · rw [xw_ne1 (by omega)]; exact q3
  · rw [xw_ne1 (by omega)]; exact q4
  · intro k hk; rw [xw_ne1 (by omega)]; exact q6 k hk
  · intro k hk; rw [xw_ne1 (by omega)]; exact q7 k hk
  · intro s hs
    obtain ⟨q, r⟩ := q8 s hs
    exact ⟨fun l hl => by rw [xw_ne1 (by omega)]; exact q l hl, by rw [xw_ne1 (by omega)]; exact r⟩
  · intro k hk; rw [xw_ne1 (by omega)]; exact q9 k hk
  · intro k hk; rw [xw_ne1 (by omega)]; exact q10 k hk
  · intro p' hp' k' hk'
    rw [known_to hk hv hn hk']
    by_cases e : p' = p ∧ k' = k
    · rw [if_pos e, e.1, e.2, xw_eq]
    · rw [if_neg e, xw_ne (by omega)]; exact q11 p' hp' k' hk'
  · intro k hk; rw [xw_ne1 (by omega), xw_ne1 (by omega)]; exact q12 k hk
theorem xTM_same {I : xI} {m p k : Nat} {v : Int32} {A : xAb} (hp : p < 6) (hk : k < 4) (hn : ab_known A p k = v) (q : xTM I m A) : xTM (xw I (m + 29 + p) k v) m A := by
  have e : xw I (m + 29 + p) k v = I := by
    funext o j
    by_cases d : o = m + 29 + p ∧ j = k
    · rw [d.1, d.2, xw_eq, ← hn]; exact (q.2.2.2.2.2.2.1 p hp k hk).symm
    · rw [xw_ne d]
  rw [e]; exact q
theorem pr_sign (a1 a2 a3 : Int32) : xPq 146 218 [.int a1, .int a2, .int a3] := by
  intro c A I L z hc h
  have hA := h.1.1
  have h6 := hA.1.2
  have hl := aP_len hA
  have x1 : p_X6_hasPlace I L a1 ↔ (0 ≤ a1.toInt ∧ a1.toInt < (ab_n A : Int)) := xp_hasPlace h.1.2.1.1.1 hA.1.2
  have m1 : ∀ J : xI, xTM J 66 A → (p_X9_isPlace J L (Int32.toInt64 a1) ↔ (0 ≤ a1.toInt ∧ a1.toInt < (ab_n A : Int))) := fun J q => xp_isPlace q.1.1 hA.1.1 hA.1.2
  by_cases e : (0 ≤ a1.toInt ∧ a1.toInt < (ab_n A : Int)) ∧ ((0 ≤ a2.toInt ∧ a2.toInt < (4 : Nat)) ∧ (0 ≤ a3.toInt ∧ a3.toInt < (10 : Nat)) ∧ (a2.toInt = 3 → a3.toInt < 6))
  · obtain ⟨e1, e2⟩ := e
    have x2 := (xi_seen (I := I) (L := L)).mpr e2
    have m2 := fun J : xI => (xm_seen (I := J) (L := L)).mpr e2
    obtain ⟨p, hp, rfl⟩ := xr_nat e1
    obtain ⟨k, hk, rfl⟩ := xr_nat e2.1
    obtain ⟨v, hv, rfl⟩ := xr_nat e2.2.1
    have h3 : k = 3 → v < 6 := by
      have := e2.2.2
      rw [xv_int (by omega), xv_int (by omega)] at this
      omega
    have hb := aHv_le A p k v
    -- up to the asking
    have xs : ∀ F : xQ, (∀ (J : xI) (t : Nat), xsm scrW I J → xFresh A J → xTX J 10 A → t ≤ 64 * c → xTal t J → h_X8_sign_43 29 F (0, 0) J L z (Int32.ofNat p) (Int32.ofNat k) (Int32.ofNat v) (Int32.ofNat (aHv A p k v))) → xCd 30 146 [.ref 9, .int (Int32.ofNat p), .int (Int32.ofNat k), .int (Int32.ofNat v)] (xS I L z) F := by
      intro F KK
      refine c_X8_sign (d := 29) (g_X8_sign_0 (by decide) ?_)
      rw [if_pos (x1.mpr e1), if_pos x2]
      refine u_refresh h (by decide) ?_
      intro J t hJ hF hX hs ha t1 t2
      refine g_X8_sign_33 (by decide) ?_
      refine xuse (t_howManyHave hA hX hF.2.2.2 hp hk (by omega)) (by decide) ?_
      rintro _ _ ⟨rfl, rfl⟩
      exact KK J t hJ hF hX t1 t2
    have ms : ∀ (J : xI) (F : xQ), xTM J 66 A → (∀ K : xI, xsm scrF J K → xTM K 66 A → h_X9_sign_43 29 F (0, 0) K L z (Int32.ofNat p) (Int32.ofNat k) (Int32.ofNat v) (if aHv A p k v = 0 then 0 else 1)) → xCd 30 218 [.ref 66, .int (Int32.ofNat p), .int (Int32.ofNat k), .int (Int32.ofNat v)] (xS J L z) F := by
      intro J F hM KK
      refine c_X9_sign (d := 29) (g_X9_sign_0 (by decide) ?_)
      rw [if_pos ((m1 J hM).mpr e1), if_pos (m2 J).1, if_pos (m2 J).2]
      refine xuse (t_isSeen hA hM hp hk hv) (by decide) ?_
      rintro _ _ ⟨rfl, K, rfl, hK, kM⟩
      exact KK K hK kM
    by_cases z0 : aHv A p k v = 0
    · refine pr_q h 5 0 (xs _ ?_) (fun J hJ hM => ms J _ hM ?_)
      · intro J t hJ hF hX t1 t2
        refine g_X8_sign_43 (by decide) ?_
        rw [z0, if_pos (show Int32.ofNat 0 = (0 : Int32) from rfl)]
        exact oX_no2 (xsm_mono hJ scrW_X) (xCache_of hF) t2 (by omega) (by decide) (by decide)
      · intro K hK kM
        refine g_X9_sign_43 (by decide) ?_
        rw [if_pos z0, if_pos rfl]
        exact oM_no (xsm_mono hK scrF_M) (by decide) (by decide)
    · have vb : ∀ j, j < 2147483648 → j ≠ 0 → ¬ Int32.ofNat j = (0 : Int32) := fun j a b q => b ((xv_eq (b := 0) a (by decide)).mp q)
      -- the reference with the sign put down
      have mb : ∀ (B : xAb), abOK B → (aP B).length = aHv A p k v → (∀ K : xI, xTM K 66 A → xTM (xw K (94 + 1 + p) k (Int32.ofNat v)) 66 B) → ∀ J : xI, xTM J 66 A → xCd 30 218 [.ref 66, .int (Int32.ofNat p), .int (Int32.ofNat k), .int (Int32.ofNat v)] (xS J L z) (oMc B J L z (Int32.ofNat (aHv A p k v))) := by
        intro B hB hBl hBM J hM
        refine ms J _ hM ?_
        intro K hK kM
        refine g_X9_sign_43 (by decide) ?_
        have q := xis_known (I := K) (L := L) (z := z) (show p < 6 by omega)
        rw [if_neg z0, if_neg (by decide), if_pos ((xv_in (by omega)).mpr (by omega)), xv_clamp (show p < 2147483648 by omega)]
        refine xbifT q.2.1 ?_
        rw [q.2.2, if_pos ((xv_in (by omega)).mpr hk), xv_clamp (show k < 2147483648 by omega)]
        refine u_findP hB (hBM K kM) (by decide) ?_
        intro N hN nR nM
        refine g_X9_sign_66 (by decide) ?_
        rw [nR.2.1, hBl]
        refine ⟨rfl, N, rfl, ?_, nM⟩
        exact xsm_trans (xsm_trans (xsm_mono hK (fun o k e => scrM_Mt o k (scrF_M o k e))) (xsm_xw (J := K) (by unfold scrMt; omega) (xsm_refl _ _))) (xsm_mono hN (fun o k e => scrM_Mt o k (scrF_M o k e)))
      rcases known_cases (A := A) p k with ⟨kn, _⟩ | ⟨s, s1, s2, s3⟩
      · obtain ⟨l24, hB⟩ := abOK_sign hA hp hk hv h3 kn
        refine pr_c h (ab_signTo A p k v) hB (Int32.ofNat (aHv A p k v)) (xs _ ?_) (fun J hJ _ hM => mb _ hB (aHv_new hk hv (by omega)) (fun K kM => xTM_signTo (by omega) hk hv kn kM) J hM)
        intro J t hJ hF hX t1 t2
        refine g_X8_sign_43 (by decide) ?_
        rw [if_neg (vb _ (by omega) z0)]
        refine c_X6_learn (d := 28) (g_X6_learn_0 (by decide) ?_)
        refine xuse (t_knows hA hX (by omega) hk) (by decide) ?_
        rintro _ _ ⟨rfl, rfl⟩
        refine g_X6_learn_6 (by decide) ?_
        have n3 : J 10 3 = Int32.ofNat (ab_sign A).length := hX.1.2.2.2.1
        rw [if_pos kn, if_pos rfl, n3, if_neg (xv_neg (by omega)), if_pos (show Int32.ofNat (ab_sign A).length < (24 : Int32) from (xv_lt (b := 24) (by omega) (by decide)).mpr l24), if_pos ((xv_in (by omega)).mpr l24), xv_clamp (by omega), xw_ne1 (by decide), n3, show Int32.ofNat (ab_sign A).length + 1 = Int32.ofNat ((ab_sign A).length + 1) from xv_add _ 1]
        refine g_X8_sign_67 (by decide) ?_
        rw [if_neg (by decide)]
        have sg : f_X6_signFor J L (Int32.ofNat p) (Int32.ofNat k) (Int32.ofNat v) = Int32.ofNat ((p * 4 + k) * 10 + v) := by
          unfold f_X6_signFor
          rw [show Int32.ofNat p * 4 = Int32.ofNat (p * 4) from xv_mul p 4, xv_add, show Int32.ofNat (p * 4 + k) * 10 = Int32.ofNat ((p * 4 + k) * 10) from xv_mul _ 10, xv_add]
        rw [sg]
        refine ⟨rfl, _, rfl, ?_, ?_, ?_, ?_, t, by omega, ?_⟩
        · exact xsm_xw (by unfold scrXt; omega) (xsm_xw (by unfold scrXt; omega) (xsm_xw (by unfold scrXt; omega) (xsm_mono hJ (fun o k e => scrX_Xt o k (scrW_X o k e)))))
        · refine xTX_signTo hX ?_ ?_ ?_ ?_ ?_
          · intro j a b; rw [xw_ne2 (by omega), xw_ne2 a, xw_ne1 (by decide)]
          · rw [xw_ne2 (by decide), xw_eq]
          · intro j hj; rw [xw_ne1 (by decide), xw_ne1 (by decide), xw_ne2 (by omega)]
          · rw [xw_ne1 (by decide), xw_ne1 (by decide), xw_eq]
          · intro o a b j; rw [xw_ne1 (by omega), xw_ne1 (by omega), xw_ne1 (by omega)]
        · intro t _ ht
          rw [xw_ne2 (by decide), xw_ne2 (by decide), xw_ne1 (by decide), hJ 10 4 (by unfold scrW; omega)]; exact ht
        · exact xCache_pos (xCache_of hF) (aW_eq rfl rfl rfl) (by rw [xw_ne2 (by decide), xw_ne2 (by decide), xw_ne1 (by decide)]) (xw_eq _ _ _ _) (fun o ho k => by rw [xw_ne1 (by omega), xw_ne1 (by omega), xw_ne1 (by omega)])
        · exact xTal_sm (S := fun o _ => o = 10 ∨ o = 16) (xsm_xw (by omega) (xsm_xw (by omega) (xsm_xw (by omega) (xsm_refl _ _)))) (fun o k e => by omega) t2
      · have sv : s % 10 = v := by
          have q := aHv_old (v := v) hk s1 s2
          by_cases d : s % 10 = v
          · exact d
          · rw [if_neg d] at q; exact absurd q z0
        have al : (aP A).length = aHv A p k v := by rw [aHv_old hk s1 s2, if_pos sv]
        refine pr_c h A hA (Int32.ofNat (aHv A p k v)) (xs _ ?_) (fun J hJ _ hM => mb A hA al (fun K kM => xTM_same (by omega) hk (by rw [s3, sv]) kM) J hM)
        intro J t hJ hF hX t1 t2
        refine g_X8_sign_43 (by decide) ?_
        rw [if_neg (vb _ (by omega) z0)]
        refine c_X6_learn (d := 28) (g_X6_learn_0 (by decide) ?_)
        refine xuse (t_knows hA hX (by omega) hk) (by decide) ?_
        rintro _ _ ⟨rfl, rfl⟩
        refine g_X6_learn_6 (by decide) ?_
        rw [if_neg (fun x => known_no.mp x s s1 s2), if_neg (by decide)]
        refine g_X8_sign_67 (by decide) ?_
        rw [if_neg (by decide)]
        refine ⟨rfl, J, rfl, xsm_mono hJ (fun o k e => scrX_Xt o k (scrW_X o k e)), hX, ?_, xCache_of hF, t, by omega, t2⟩
        intro t _ ht
        rw [hJ 10 4 (by unfold scrW; omega)]; exact ht
  · refine pr_q h 2 0 ?_ ?_
    · exact c_X8_sign (d := 29) (g_X8_sign_0 (by decide) (no2 e x1 xi_seen (oX_no h (by decide) (by decide))))
    · intro J hJ hM
      refine c_X9_sign (d := 29) (g_X9_sign_0 (by decide) ?_)
      have n := oM_no (I := J) (J := J) (L := L) (z := z) (k := 2) (v := 0) (xsm_refl _ _) (by decide) (by decide)
      by_cases a : p_X9_isPlace J L (Int32.toInt64 a1)
      · rw [if_pos a]
        by_cases b : p_X9_in J L (Int32.toInt64 a2) (Int64.ofNat 0) (Int64.ofNat 3)
        · rw [if_pos b, if_neg (fun d => e ⟨(m1 J hM).mp a, xm_seen.mp ⟨b, d⟩⟩)]; exact n
        · rw [if_neg b]; exact n
      · rw [if_neg a]; exact n
