/-! promises: truth -/
theorem xInv_X {c : Nat} {A : xAb} {I J : xI} {L : xL} {z : Bool × Bool × Nat} (hJ : xsm (xAt 64) I J) (h : xInv c A I L z) : xInv c A J L z := by
  obtain ⟨hb, hs, ha, hc, t, t1, t2⟩ := h
  refine ⟨xBoth_any hb (xsm_mono hJ (fun o k e => by unfold xAt at e; unfold scrAny scrX; omega)), xShf_sm hJ (fun k => by unfold xAt; omega) hs, xAbv_sm hJ (fun k => by unfold xAt; omega) ha, xCache_sm hJ (fun o k e => by unfold xAt at e; unfold noC; omega) hc, t, t1, xTal_sm hJ (fun o k e => by unfold xAt at e; omega) t2⟩
theorem t_setTruth {I : xI} {L : xL} {z : Bool × Bool × Nat} {w : Nat} (hs : xShf I) (hw : w < 262144) : xCd 2 90 [.ref 10, .int (Int32.ofNat w)] (xS I L z) (qN (fun o k => o = 12 ∨ (o = 10 ∧ (k = 3 ∨ k = 6))) I L z (fun J => J 10 3 = 0 ∧ J 10 6 = 1 ∧ ∀ k, k < 6 → J 12 k = Int32.ofNat (wd w k))) := by
  refine c_X6_setTruth (d := 1) (g_X6_setTruth_0 (by decide) ?_)
  have key : ∀ i, i ≤ 6 → ∀ J : xI, xsm (xAt 12) I J → (∀ k, k < i → J 12 k = Int32.ofNat (wd w k)) → h_X6_setTruth_2 1 (qN (fun o k => o = 12 ∨ (o = 10 ∧ (k = 3 ∨ k = 6))) I L z (fun J => J 10 3 = 0 ∧ J 10 6 = 1 ∧ ∀ k, k < 6 → J 12 k = Int32.ofNat (wd w k))) (0, 0) J L z (Int32.ofNat w) (Int32.ofNat i) := by
    refine xcount _ 6 ?_ ?_
    · intro i hi KK J hJ hk
      refine g_X6_setTruth_2 (by decide) ?_
      have js : xShf J := xShf_sm hJ (fun k => by unfold xAt; omega) hs
      rw [if_pos (show Int32.ofNat i < (6 : Int32) from (xv_lt (b := 6) (by omega) (by decide)).mpr hi), if_pos ((xv_in (by omega)).mpr hi), f_sortAt js hw hi, xv_clamp (by omega), show Int32.ofNat i + 1 = Int32.ofNat (i + 1) from xv_add i 1]
      refine KK _ (xsm_xw rfl hJ) ?_
      intro k hk2
      by_cases d : k = i
      · rw [d, xw_eq]
      · rw [xw_ne2 d]; exact hk k (by omega)
    · intro J hJ hk
      refine g_X6_setTruth_2 (by decide) ?_
      rw [if_neg (by decide)]
      refine ⟨rfl, _, rfl, xsm_xw (by omega) (xsm_xw (by omega) (xsm_mono hJ (fun o k e => Or.inl e))), ?_, xw_eq _ _ _ _, ?_⟩
      · rw [xw_ne2 (by decide), xw_eq]
      · intro k hk2
        rw [xw_ne1 (by decide), xw_ne1 (by decide)]; exact hk k hk2
  exact key 0 (by decide) I (xsm_refl _ _) (fun k hk => absurd hk (Nat.not_lt_zero _))
theorem pr_truth (a1 : Int32) : xPq 171 291 [.int a1] := by
  intro c A I L z hc h
  have hA := h.1.1
  have h6 := hA.1.2
  have hn : I 10 0 = Int32.ofNat (ab_n A) := h.1.2.1.1.1
  obtain ⟨t, t1, t2⟩ := h.2.2.2.2
  rcases told_cases h.1 a1 with ⟨k, k2, k4, hk⟩ | ⟨s, m, v, hs, rfl, hv, hm, nm, h58, h59, h67, h69, hrow⟩
  · refine pr_q h k 0 ?_ ?_
    · refine c_X8_truth (d := 29) (g_X8_truth_0 (by decide) ?_)
      refine xuse (t_sortsX_no k2 k4 hk h.1.2.2.2.1 hn hA.1.1 h6) (by decide) ?_
      rintro _ _ ⟨rfl, rfl⟩
      refine g_X8_truth_5 (by decide) ?_
      rw [if_neg (show ¬ -(Int32.ofNat k) = 0 from fun q => by
        rw [show (0 : Int32) = Int32.ofNat 0 from rfl, xv_m1' (by decide) (by omega) (by omega)] at q
        exact q.elim)]
      exact oX_no h k2 (by omega)
    · intro J hJ hM
      refine c_X9_truth (d := 29) (g_X9_truth_0 (by decide) ?_)
      refine tree_no hk (fun s => hJ _ _ (by unfold scrXr scrX; omega)) (fun s => hJ _ _ (by unfold scrXr scrX; omega)) hM.1.1 h6 ?_ ?_ ?_
      · rintro rfl; exact oM_no (xsm_refl _ _) (by decide) (by decide)
      · rintro rfl; exact oM_no (xsm_refl _ _) (by decide) (by decide)
      · rintro rfl; exact oM_no (xsm_refl _ _) (by decide) (by decide)
  · have cx := t_sortsX (z := z) hs hv hm h58 h59 (h.1.2.2.2.1 s hs) h67 hn h6 nm hrow
    cases q : allS (fun i => tn (L (71 + s) i)) (ab_n A)
    · refine pr_q h 2 0 ?_ ?_
      · refine c_X8_truth (d := 29) (g_X8_truth_0 (by decide) ?_)
        refine xuse cx (by decide) ?_
        rintro _ _ ⟨rfl, J, rfl, hJ, j64⟩
        refine g_X8_truth_5 (by decide) ?_
        rw [q, if_neg (show ¬ ((if false = true then 0 else -2 : Int32)) = 0 from by decide)]
        exact oX_no2 (xsm_mono hJ (fun o k e => by unfold xAt at e; unfold scrX; omega)) (xCache_sm hJ (fun o k e => by unfold xAt at e; unfold noC; omega) h.2.2.2.1) (xTal_sm hJ (fun o k e => by unfold xAt at e; omega) t2) (by omega) (by decide) (by decide)
      · intro J hJ hM
        refine c_X9_truth (d := 29) (g_X9_truth_0 (by decide) ?_)
        refine tree_yes hs (by rw [hJ _ _ (by unfold scrXr scrX; omega)]; exact h67) (by rw [hJ _ _ (by unfold scrXr scrX; omega)]; exact h69) hm hM.1.1 nm ?_
        rw [xv_clamp (by omega)]
        refine xuse (t_sortsM hs hM.1.1 h6) (by decide) ?_
        rintro _ _ ⟨rfl, rfl⟩
        refine g_X9_truth_22 (by decide) ?_
        rw [q, if_pos (show ((if false = true then 1 else 0 : Int32)) = 0 from by decide)]
        exact oM_no (xsm_refl _ _) (by decide) (by decide)
    · have hf := rowF_lt (L := L) (s := s) (n := ab_n A) q
      have f0 : ∀ i, ab_n A ≤ i → rowF L s (ab_n A) i = 0 := fun i hi => if_neg (by omega)
      have hf8 : ∀ i, i < ab_n A → rowF L s (ab_n A) i < 8 := fun i _ => by have := hf i; omega
      have hwl := wc_lt h6 hf8
      -- the class, up to the asking
      have xs : ∀ F : xQ, (∀ (K : xI) (t : Nat), xsm (fun o k => scrW o k ∨ o = 64) I K → xFresh A K → xTX K 10 A → xShf K → t ≤ 64 * c → xTal t K → h_X8_truth_46 29 F (0, 0) K L z (Int32.ofNat s) 0 (Int32.ofNat (wc (rowF L s (ab_n A)) (ab_n A))) (if wc (rowF L s (ab_n A)) (ab_n A) ∈ aW A then 1 else 0)) → xCd 30 171 [.ref 9, .int (Int32.ofNat s)] (xS I L z) F := by
        intro F KK
        refine c_X8_truth (d := 29) (g_X8_truth_0 (by decide) ?_)
        refine xuse cx (by decide) ?_
        rintro _ _ ⟨rfl, J, rfl, hJ, j64⟩
        refine g_X8_truth_5 (by decide) ?_
        rw [q, if_pos (show ((if true = true then 0 else -2 : Int32)) = 0 from by decide)]
        refine u_refresh (xInv_X hJ h) (by decide) ?_
        intro K t hK kF kX kS kA t1 t2
        have k64 : ∀ i, i < ab_n A → K 64 i = Int32.ofNat (rowF L s (ab_n A) i) := fun i hi => by
          rw [hK 64 i (by unfold scrW; omega), j64 i hi, tv_row ((allS_iff _).mp q i hi)]
          unfold rowF
          rw [if_pos hi]
        refine g_X8_truth_23 (by decide) ?_
        rw [kX.1.1]
        refine xuse (t_worldIn (a0 := 64) (f := rowF L s (ab_n A)) rfl rfl rfl kS h6 k64 hf8) (by decide) ?_
        rintro _ _ ⟨rfl, rfl⟩
        refine g_X8_truth_37 (by decide) ?_
        refine xuse (t_isWorld kF.2.2.1.1 kF.2.2.1.2 (aW_len hA).2 hwl (fun v hv => aW_lt hA hv)) (by decide) ?_
        rintro _ _ ⟨rfl, rfl⟩
        exact KK K t (fun o k e => (hK o k (fun x => e (Or.inl x))).trans (hJ o k (fun x => e (Or.inr x)))) kF kX kS t1 t2
      -- the reference, up to the seeking
      have ms : ∀ (J : xI) (F : xQ), J 67 s = I 67 s → J 69 s = I 69 s → xTM J 66 A → (∀ K : xI, xsm (fun o k => scrK o k ∨ o = 106) J K → xTM K 66 A → xRows (ab_n A) (aW A) K → (∀ p, p < ab_n A → K 106 p = Int32.ofNat (rowF L s (ab_n A) p)) → h_X9_truth_69 29 F (0, 0) K L z (Int32.ofNat s) 0 (Int32.ofNat 0)) → xCd 30 291 [.ref 66, .int (Int32.ofNat s)] (xS J L z) F := by
        intro J F j67 j69 hM KK
        refine c_X9_truth (d := 29) (g_X9_truth_0 (by decide) ?_)
        refine tree_yes hs (by rw [j67]; exact h67) (by rw [j69]; exact h69) hm hM.1.1 nm ?_
        rw [xv_clamp (by omega)]
        refine xuse (t_sortsM hs hM.1.1 h6) (by decide) ?_
        rintro _ _ ⟨rfl, rfl⟩
        refine g_X9_truth_22 (by decide) ?_
        rw [q, if_neg (show ¬ ((if true = true then 1 else 0 : Int32)) = 0 from by decide)]
        refine xuse (t_findWorlds hA hM) (by decide) ?_
        rintro _ _ ⟨rfl, N, rfl, hN, nR⟩
        refine g_X9_truth_36 (by decide) ?_
        have nM : xTM N 66 A := xTM_sm hN (by unfold scrK; omega) (fun o a b k => by unfold scrK; omega) hM
        have key : ∀ i, i ≤ ab_n A → ∀ K : xI, xsm (xAt 106) N K → (∀ p, p < i → K 106 p = Int32.ofNat (rowF L s (ab_n A) p)) → h_X9_truth_38 29 F (0, 0) K L z (Int32.ofNat s) 0 (Int32.ofNat i) := by
          refine xcount _ (ab_n A) ?_ ?_
          · intro i hi K2 K hK hp
            refine g_X9_truth_38 (by decide) ?_
            have kn : K 66 9 = Int32.ofNat (ab_n A) := (hK 66 9 (by unfold xAt; omega)).trans nM.1.1
            have xs := xis_shelf (I := K) (L := L) (z := z) hs
            rw [if_pos (show Int32.ofNat i < K 66 9 by rw [kn]; exact (xv_lt (by omega) (by omega)).mpr hi), if_pos ((xv_in (by omega)).mpr hs), xv_clamp (show s < 2147483648 by omega)]
            refine xbifT xs.1 ?_
            rw [xs.2.2, if_pos ((xv_in (by omega)).mpr (by omega)), if_pos ((xv_in (by omega)).mpr (by omega))]
            simp only [xv_clamp (show i < 2147483648 by omega)]
            rw [show Int32.ofNat i + 1 = Int32.ofNat (i + 1) from xv_add i 1]
            refine K2 _ (xsm_xw rfl hK) ?_
            intro p hp2
            by_cases d : p = i
            · rw [d, xw_eq]
              show Int64.toInt32 (L (71 + s) i) = _
              unfold rowF
              rw [if_pos hi]
              have := (allS_iff _).mp q i hi
              rcases tn_cases (L (71 + s) i) with ⟨a, b⟩ | ⟨a, b, d⟩
              · omega
              · exact d
            · rw [xw_ne2 d]; exact hp p (by omega)
          · intro K hK hp
            refine g_X9_truth_38 (by decide) ?_
            have kn : K 66 9 = Int32.ofNat (ab_n A) := (hK 66 9 (by unfold xAt; omega)).trans nM.1.1
            rw [if_neg (show ¬ Int32.ofNat (ab_n A) < K 66 9 by rw [kn]; exact fun q => absurd ((xv_lt (by omega) (by omega)).mp q) (Nat.lt_irrefl _))]
            refine KK K (fun o k e => (hK o k (fun x => e (Or.inr x))).trans (hN o k (fun x => e (Or.inl x)))) (xTM_sm hK (by unfold xAt; omega) (fun o a b k => by unfold xAt; omega) nM) ⟨?_, ?_⟩ hp
            · rw [hK 66 32 (by unfold xAt; omega)]; exact nR.1
            · intro i hi p hp2; rw [hK 105 _ (by unfold xAt; omega)]; exact nR.2 i hi p hp2
        exact key 0 (Nat.zero_le _) N (xsm_refl _ _) (fun p hp => absurd hp (Nat.not_lt_zero _))
      -- one step of the seeking
      have seek : ∀ (F : xQ) (K : xI), xTM K 66 A → xRows (ab_n A) (aW A) K → (∀ p, p < ab_n A → K 106 p = Int32.ofNat (rowF L s (ab_n A) p)) → (wc (rowF L s (ab_n A)) (ab_n A) ∈ aW A → ∀ a3, h_X9_truth_96 29 F (0, 0) (xcop K 106 84 6) L z (Int32.ofNat s) 0 a3) → (¬ wc (rowF L s (ab_n A)) (ab_n A) ∈ aW A → F (some (.int (-5))) (xS (xw K 82 5 (K 82 5 + 1)) L z)) → h_X9_truth_69 29 F (0, 0) K L z (Int32.ofNat s) 0 (Int32.ofNat 0) := by
        intro F K kM kR kp yes no
        have l7 := (aW_len hA).2
        have key : ∀ i, i ≤ (aW A).length → (∀ j, j < i → (aW A).getD j 0 ≠ wc (rowF L s (ab_n A)) (ab_n A)) → h_X9_truth_69 29 F (0, 0) K L z (Int32.ofNat s) 0 (Int32.ofNat i) := by
          refine xcount _ (aW A).length ?_ ?_
          · intro i hi K2 hj
            refine g_X9_truth_69 (by decide) ?_
            rw [if_pos (show Int32.ofNat i < K 66 32 by rw [kR.1]; exact (xv_lt (by omega) (by omega)).mpr hi)]
            obtain ⟨g, g1, g2, _⟩ := aW_row hA (gd_mem hi)
            refine xuse (t_against hA kM kR l7 hi g1 g2 (fun p _ => hf p) kp) (by decide) ?_
            rintro _ _ ⟨v, rfl, rfl, _, v0⟩
            refine g_X9_truth_82 (by decide) ?_
            by_cases e : v = 0
            · rw [if_pos e]
              refine xuse (s_X9_copied (n := 6) (z := z) rfl rfl rfl rfl rfl (by decide) rfl rfl (by decide)) (by decide) ?_
              rintro _ _ ⟨rfl, rfl⟩
              exact yes (by rw [v0.mp e]; exact gd_mem hi) _
            · rw [if_neg e, show Int32.ofNat i + 1 = Int32.ofNat (i + 1) from xv_add i 1]
              refine K2 fun j hj2 => ?_
              by_cases d : j = i
              · rw [d]; exact fun x => e (v0.mpr x.symm)
              · exact hj j (by omega)
          · intro hj
            refine g_X9_truth_69 (by decide) ?_
            rw [if_neg (show ¬ Int32.ofNat (aW A).length < K 66 32 by rw [kR.1]; exact fun q => absurd ((xv_lt (by omega) (by omega)).mp q) (Nat.lt_irrefl _))]
            refine no fun x => ?_
            obtain ⟨i, a, b⟩ := mem_gd x
            exact hj i a b
        exact key 0 (Nat.zero_le _) (fun j hj => absurd hj (Nat.not_lt_zero _))
      by_cases w : wc (rowF L s (ab_n A)) (ab_n A) ∈ aW A
      · have hB : abOK (ab_lay A (ab_n A) (ab_pour A) (rowF L s (ab_n A))) := abOK_lay hA hA.1 hA.2.2.1 (fun k _ => hf k) (fun k a b => ⟨(hA.2.2.2.2.1 k a b).1, f0 k a⟩)
        refine pr_c h (ab_lay A (ab_n A) (ab_pour A) (rowF L s (ab_n A))) hB 1 (xs _ ?_) ?_
        · intro K t hK kF kX kS t1 t2
          refine g_X8_truth_46 (by decide) ?_
          rw [if_pos w, if_neg (by decide)]
          refine xuse (t_setTruth kS hwl) (by decide) ?_
          rintro _ _ ⟨rfl, N, rfl, hN, n3, n6, n12⟩
          refine g_X8_truth_64 (by decide) ⟨rfl, N, rfl, ?_, ?_, ?_, ?_, t, by omega, ?_⟩
          · intro o k e
            unfold scrXt scrX at e
            exact (hN o k (by omega)).trans (hK o k (by unfold scrW; omega))
          · refine xTX_lay kX ((hN 10 0 (by omega)).trans kX.1.1) (hN 10 1 (by omega)) (hN 10 2 (by omega)) n3 (hN 10 4 (by omega)) (fun k hk => by rw [hN (10 + 1) k (by omega)]; exact kX.2.1 k hk) ?_ (fun o ho k => hN o k (by omega))
            intro k hk
            rw [n12 k hk, wd_wc h6 hf8 hk]
            unfold rowF
            by_cases e : k < ab_n A
            · rw [if_pos e]
            · rw [if_neg e, if_neg e]
          · intro t _ ht
            rw [hN 10 4 (by omega), hK 10 4 (by unfold scrW; omega)]; exact ht
          · exact xCache_pos (xCache_of kF) (aW_eq rfl rfl rfl) (hN 10 5 (by omega)) n6 (fun o ho k => hN o k (by omega))
          · exact xTal_sm hN (fun o k e => by omega) t2
        · intro J hJ _ hM
          refine ms J _ (hJ _ _ (by unfold scrXt scrX; omega)) (hJ _ _ (by unfold scrXt scrX; omega)) hM ?_
          intro K hK kM kR kp
          refine seek _ K kM kR kp (fun _ a3 => ?_) (fun x => absurd w x)
          refine g_X9_truth_96 (by decide) ?_
          refine xuse t_forgets (by decide) ?_
          rintro _ _ ⟨rfl, N, rfl, hN, nk⟩
          have hc : ∀ o k, o ≠ 84 → xcop K 106 84 6 o k = K o k := fun o k e => by
            unfold xcop
            rw [if_neg (fun x => e x.1)]
          have g : ∀ o k, o ≠ 84 → ¬ (95 ≤ o ∧ o ≤ 100) → N o k = K o k := fun o k a b => (hN o k b).trans (hc o k a)
          refine g_X9_truth_100 (by decide) ⟨rfl, N, rfl, ?_, ?_⟩
          · intro o k e
            unfold scrMt scrM at e
            exact (g o k (by omega) (by omega)).trans (hK o k (by unfold scrK; omega))
          · refine xTM_lay kM ((g 66 9 (by omega) (by omega)).trans kM.1.1) (g 66 10 (by omega) (by omega)) (g 66 20 (by omega) (by omega)) (g 66 17 (by omega) (by omega)) (fun k hk => by rw [g (66 + 17) k (by omega) (by omega)]; exact kM.2.1 k hk) ?_ nk (fun o ho k => g o k (by omega) (by omega))
            intro k hk
            rw [hN (66 + 18) k (by unfold scrKn; omega)]
            unfold xcop
            rw [if_pos ⟨rfl, by omega⟩]
            exact kp k hk
      · refine pr_q h 5 0 (xs _ ?_) ?_
        · intro K t hK kF kX kS t1 t2
          refine g_X8_truth_46 (by decide) ?_
          rw [if_neg w, if_pos rfl]
          exact oX_no2 (xsm_mono hK (fun o k e => by unfold scrW at e; unfold scrX; omega)) (xCache_of kF) t2 (by omega) (by decide) (by decide)
        · intro J hJ hM
          refine ms J _ (hJ _ _ (by unfold scrXr scrX; omega)) (hJ _ _ (by unfold scrXr scrX; omega)) hM ?_
          intro K hK kM kR kp
          refine seek _ K kM kR kp (fun x _ => absurd x w) (fun _ => ?_)
          exact oM_no (xsm_mono hK (fun o k e => by unfold scrK at e; unfold scrM; omega)) (by decide) (by decide)
