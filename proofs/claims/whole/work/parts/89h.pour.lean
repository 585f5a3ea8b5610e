def scrPo (n : Nat) : Nat → Nat → Prop := fun o k => ((o = 83 ∨ o = 84) ∧ k < n) ∨ (95 ≤ o ∧ o ≤ 100)
theorem t_pours {n a : Nat} {I : xI} {L : xL} {z : Bool × Bool × Nat} {f : Nat → Nat} (hx : ∀ J : xI, xis (xS J L z) a 21 = true) (hl : n ≤ xlen z.2.2 a) (hn : I 66 9 = Int32.ofNat n) (n6 : n ≤ 6) (hf : ∀ i, i < n → Int64.toInt32 (L a i) = Int32.ofNat (f i)) : xCd 2 209 [.ref 66, .ref a] (xS I L z) (qN (scrPo n) I L z (fun J => (∀ i, i < n → J 83 i = Int32.ofNat (f i) ∧ J 84 i = Int32.ofNat (f i)) ∧ ∀ p, p < 6 → ∀ k, k < 4 → J (95 + p) k = -1)) := by
  refine c_X9_pours (d := 1) (g_X9_pours_0 (by decide) ?_)
  have key : ∀ i, i ≤ n → ∀ J : xI, xsm (fun o k => (o = 83 ∨ o = 84) ∧ k < n) I J → (∀ j, j < i → J 83 j = Int32.ofNat (f j) ∧ J 84 j = Int32.ofNat (f j)) → h_X9_pours_2 1 (qN (scrPo n) I L z (fun J => (∀ i, i < n → J 83 i = Int32.ofNat (f i) ∧ J 84 i = Int32.ofNat (f i)) ∧ ∀ p, p < 6 → ∀ k, k < 4 → J (95 + p) k = -1)) (0, 0) J L z a (Int32.ofNat i) := by
    refine xcount _ n ?_ ?_
    · intro i hi KK J hJ hj
      refine g_X9_pours_2 (by decide) ?_
      have jn : J 66 9 = Int32.ofNat n := (hJ 66 9 (by omega)).trans hn
      rw [if_pos (show Int32.ofNat i < J 66 9 by rw [jn]; exact (xv_lt (by omega) (by omega)).mpr hi)]
      refine xbifT (hx J) ?_
      have hi3 : i < 2147483648 := by omega
      rw [if_pos ((xv_in hi3).mpr (by omega)), if_pos ((xv_in hi3).mpr (by omega))]
      refine xbifT (hx _) ?_
      simp only [xv_clamp hi3]
      rw [hf i hi, show Int32.ofNat i + 1 = Int32.ofNat (i + 1) from xv_add i 1]
      refine KK _ (xsm_xw (by omega) (xsm_xw (by omega) hJ)) ?_
      intro j hj2
      rw [xw_ne1 (o := 84) (o' := 83) (by decide)]
      by_cases d : j = i
      · rw [d, xw_eq, xw_eq]; exact ⟨rfl, rfl⟩
      · rw [xw_ne2 d, xw_ne2 d, xw_ne1 (o := 83) (o' := 84) (by decide)]; exact hj j (by omega)
    · intro J hJ hj
      refine g_X9_pours_2 (by decide) ?_
      have jn : J 66 9 = Int32.ofNat n := (hJ 66 9 (by omega)).trans hn
      rw [if_neg (show ¬ Int32.ofNat n < J 66 9 by rw [jn]; exact fun q => absurd ((xv_lt (by omega) (by omega)).mp q) (Nat.lt_irrefl _))]
      refine xuse t_forgets (by decide) ?_
      rintro _ _ ⟨rfl, N, rfl, hN, nk⟩
      have g : ∀ o, ¬ (95 ≤ o ∧ o ≤ 100) → ∀ k, N o k = J o k := fun o e k => hN o k e
      refine g_X9_pours_40 (by decide) ⟨rfl, N, rfl, ?_, ?_, nk⟩
      · intro o k e
        unfold scrPo at e
        exact (g o (by omega) k).trans (hJ o k (by omega))
      · intro i hi; rw [g 83 (by omega), g 84 (by omega)]; exact hj i hi
  exact key 0 (Nat.zero_le _) I (xsm_refl _ _) (fun j hj => absurd hj (Nat.not_lt_zero _))
theorem scrK_Mt : ∀ o k, scrK o k → scrM o k := fun o k e => by unfold scrK at e; unfold scrM; omega
theorem pr_pour (a1 : Int32) : xPq 141 210 [.int a1] := by
  intro c A I L z hc h
  have hA := h.1.1
  have h6 := hA.1.2
  have hn : I 10 0 = Int32.ofNat (ab_n A) := h.1.2.1.1.1
  obtain ⟨t, t1, t2⟩ := h.2.2.2.2
  rcases told_cases h.1 a1 with ⟨k, k2, k4, hk⟩ | ⟨s, m, v, hs, rfl, hv, hm, nm, h58, h59, h67, h69, hrow⟩
  · refine pr_q h k 0 ?_ ?_
    · refine c_X8_pour (d := 29) (g_X8_pour_0 (by decide) ?_)
      refine xuse (t_sortsX_no k2 k4 hk h.1.2.2.2.1 hn hA.1.1 h6) (by decide) ?_
      rintro _ _ ⟨rfl, rfl⟩
      refine g_X8_pour_5 (by decide) ?_
      rw [if_neg (show ¬ -(Int32.ofNat k) = 0 from fun q => by
        rw [show (0 : Int32) = Int32.ofNat 0 from rfl, xv_m1' (by decide) (by omega) (by omega)] at q
        exact q.elim)]
      exact oX_no h k2 (by omega)
    · intro J hJ hM
      refine c_X9_pour (d := 29) (g_X9_pour_0 (by decide) ?_)
      refine tree_no hk (fun s => hJ _ _ (by unfold scrXr scrX; omega)) (fun s => hJ _ _ (by unfold scrXr scrX; omega)) hM.1.1 h6 ?_ ?_ ?_
      · rintro rfl; exact oM_no (xsm_refl _ _) (by decide) (by decide)
      · rintro rfl; exact oM_no (xsm_refl _ _) (by decide) (by decide)
      · rintro rfl; exact oM_no (xsm_refl _ _) (by decide) (by decide)
  · have cx := t_sortsX (z := z) hs hv hm h58 h59 (h.1.2.2.2.1 s hs) h67 hn h6 nm hrow
    cases q : allS (fun i => tn (L (71 + s) i)) (ab_n A)
    · refine pr_q h 2 0 ?_ ?_
      · refine c_X8_pour (d := 29) (g_X8_pour_0 (by decide) ?_)
        refine xuse cx (by decide) ?_
        rintro _ _ ⟨rfl, J, rfl, hJ, j64⟩
        refine g_X8_pour_5 (by decide) ?_
        rw [q, if_neg (show ¬ ((if false = true then 0 else -2 : Int32)) = 0 from by decide)]
        exact oX_no2 (xsm_mono hJ (fun o k e => by unfold xAt at e; unfold scrX; omega)) (xCache_sm hJ (fun o k e => by unfold xAt at e; unfold noC; omega) h.2.2.2.1) (xTal_sm hJ (fun o k e => by unfold xAt at e; omega) t2) (by omega) (by decide) (by decide)
      · intro J hJ hM
        refine c_X9_pour (d := 29) (g_X9_pour_0 (by decide) ?_)
        refine tree_yes hs (by rw [hJ _ _ (by unfold scrXr scrX; omega)]; exact h67) (by rw [hJ _ _ (by unfold scrXr scrX; omega)]; exact h69) hm hM.1.1 nm ?_
        rw [xv_clamp (by omega)]
        refine xuse (t_sortsM hs hM.1.1 h6) (by decide) ?_
        rintro _ _ ⟨rfl, rfl⟩
        refine g_X9_pour_22 (by decide) ?_
        rw [q, if_pos (show ((if false = true then 1 else 0 : Int32)) = 0 from by decide)]
        exact oM_no (xsm_refl _ _) (by decide) (by decide)
    · have hf := rowF_lt (L := L) (s := s) (n := ab_n A) q
      have f0 : ∀ i, ab_n A ≤ i → rowF L s (ab_n A) i = 0 := fun i hi => if_neg (by omega)
      have hB : abOK (ab_lay A (ab_n A) (rowF L s (ab_n A)) (rowF L s (ab_n A))) := abOK_lay hA hA.1 (fun k _ => hf k) (fun k _ => hf k) (fun k a _ => ⟨f0 k a, f0 k a⟩)
      generalize hBe : ab_lay A (ab_n A) (rowF L s (ab_n A)) (rowF L s (ab_n A)) = B at hB
      refine pr_c h B hB (Int32.ofNat (aW B).length) ?_ ?_
      · refine c_X8_pour (d := 29) (g_X8_pour_0 (by decide) ?_)
        refine xuse cx (by decide) ?_
        rintro _ _ ⟨rfl, J, rfl, hJ, j64⟩
        refine g_X8_pour_5 (by decide) ?_
        rw [q, if_pos (show ((if true = true then 0 else -2 : Int32)) = 0 from by decide)]
        have jn : J 10 0 = Int32.ofNat (ab_n A) := (hJ 10 0 (by unfold xAt; omega)).trans hn
        refine xuse (t_pourX (n := ab_n A) (f := rowF L s (ab_n A)) jn h6 (fun i hi => by
          rw [j64 i hi, tv_row ((allS_iff _).mp q i hi)]
          unfold rowF
          rw [if_pos hi]) f0) (by decide) ?_
        rintro _ _ ⟨rfl, K, rfl, hK, k3, k5, k6, kf⟩
        have gK : ∀ o k, ¬ (o = 64 ∨ o = 11 ∨ o = 12 ∨ (o = 10 ∧ (k = 3 ∨ k = 5 ∨ k = 6))) → K o k = I o k := fun o k e => (hK o k (by omega)).trans (hJ o k (by unfold xAt; omega))
        have kX : xTX K 10 B := by
          rw [← hBe]
          exact xTX_lay h.1.2.1 ((gK 10 0 (by omega)).trans hn) (gK 10 1 (by omega)) (gK 10 2 (by omega)) k3 (gK 10 4 (by omega)) (fun k hk => (kf k hk).1) (fun k hk => (kf k hk).2) (fun o ho k => gK o k (by omega))
        have kS : xShf K := fun p hp => (gK 2 p (by omega)).trans (h.2.1 p hp)
        refine g_X8_pour_27 (by decide) ?_
        refine xuse (t_refresh hB kX kS (Or.inl k5)) (by decide) ?_
        rintro _ _ ⟨rfl, N, rfl, hN, nF⟩
        refine g_X8_pour_34 (by decide) ?_
        rw [nF.2.2.1.1]
        refine ⟨rfl, N, rfl, ?_, xTX_W hN kX, ?_, xCache_of nF, t, by omega, ?_⟩
        · intro o k e
          unfold scrXt scrX at e
          exact (hN o k (by unfold scrW; omega)).trans (gK o k (by omega))
        · intro t _ ht
          rw [hN 10 4 (by unfold scrW; omega), gK 10 4 (by omega)]; exact ht
        · exact xTal_sm (S := fun o k => scrW o k ∨ o = 64 ∨ o = 11 ∨ o = 12 ∨ o = 10) (fun o k e => (hN o k (fun x => e (Or.inl x))).trans (gK o k (by omega))) (fun o k e => by unfold scrW at e; omega) t2
      · intro J hJ _ hM
        refine c_X9_pour (d := 29) (g_X9_pour_0 (by decide) ?_)
        refine tree_yes hs (by rw [hJ _ _ (by unfold scrXt scrX; omega)]; exact h67) (by rw [hJ _ _ (by unfold scrXt scrX; omega)]; exact h69) hm hM.1.1 nm ?_
        rw [xv_clamp (by omega)]
        refine xuse (t_sortsM hs hM.1.1 h6) (by decide) ?_
        rintro _ _ ⟨rfl, rfl⟩
        refine g_X9_pour_22 (by decide) ?_
        rw [q, if_neg (show ¬ ((if true = true then 1 else 0 : Int32)) = 0 from by decide), if_pos ((xv_in (by omega)).mpr hs), xv_clamp (by omega)]
        have xs := fun J : xI => xis_shelf (I := J) (L := L) (z := z) hs
        refine xuse (t_pours (n := ab_n A) (f := rowF L s (ab_n A)) (fun J => (xs J).1) (by rw [(xs J).2.2]; omega) hM.1.1 h6 (fun i hi => by
          show Int64.toInt32 (L (71 + s) i) = _
          unfold rowF
          rw [if_pos hi]
          have := (allS_iff _).mp q i hi
          rcases tn_cases (L (71 + s) i) with ⟨a, b⟩ | ⟨a, b, d⟩
          · omega
          · exact d)) (by decide) ?_
        rintro _ _ ⟨rfl, K, rfl, hK, kf, kk⟩
        have kM : xTM K 66 B := by
          rw [← hBe]
          refine xTM_lay hM ((hK 66 9 (by unfold scrPo; omega)).trans hM.1.1) (hK 66 10 (by unfold scrPo; omega)) (hK 66 20 (by unfold scrPo; omega)) (hK 66 17 (by unfold scrPo; omega)) ?_ (fun k hk => (kf k hk).2) kk (fun o ho k => hK o k (by unfold scrPo; omega))
          intro k hk
          by_cases e : k < ab_n A
          · exact (kf k e).1
          · rw [hK (66 + 17) k (by unfold scrPo; omega), hM.2.1 k hk, f0 k (by omega), (hA.2.2.2.2.1 k (by omega) hk).1]
        refine g_X9_pour_42 (by decide) ?_
        refine xuse (t_findWorlds hB kM) (by decide) ?_
        rintro _ _ ⟨rfl, N, rfl, hN, nR⟩
        refine g_X9_pour_46 (by decide) ?_
        rw [nR.1]
        refine ⟨rfl, N, rfl, ?_, ?_⟩
        · exact xsm_trans (xsm_mono hK (fun o k e => by unfold scrPo at e; unfold scrMt; omega)) (xsm_mono hN (fun o k e => scrM_Mt o k (scrK_Mt o k e)))
        · exact xTM_sm hN (by unfold scrK; omega) (fun o a b k => by unfold scrK; omega) kM
