/-! cups, rows and truths are laid anew: all signs are forgotten -/
def ab_lay (A : xAb) (n : Nat) (f g : Nat → Nat) : xAb := ((n, A.1.2.1, A.1.2.2), f, g, A.2.2.2.1, A.2.2.2.2.1, A.2.2.2.2.2.1, [], A.2.2.2.2.2.2.2)
theorem abOK_lay {A : xAb} {n : Nat} {f g : Nat → Nat} (hA : abOK A) (hn : 2 ≤ n ∧ n ≤ 6) (hf : ∀ k, k < 6 → f k < 6) (hg : ∀ k, k < 6 → g k < 6) (h0 : ∀ k, n ≤ k → k < 6 → f k = 0 ∧ g k = 0) : abOK (ab_lay A n f g) := by
  obtain ⟨k1, k2, k3, k4, k5, k6, k7, k8, k9, k10⟩ := hA
  exact ⟨hn, k2, hf, hg, h0, k6, k7, k8, ⟨Nat.zero_le _, fun s hs => absurd (show s ∈ ([] : List Nat) from hs) List.not_mem_nil, List.Pairwise.nil⟩, k10⟩
theorem xTX_lay {I J : xI} {t n : Nat} {A : xAb} {f g : Nat → Nat} (q : xTX I t A) (h0 : J t 0 = Int32.ofNat n) (h1 : J t 1 = I t 1) (h2 : J t 2 = I t 2) (h3 : J t 3 = 0) (h4 : J t 4 = I t 4) (hf : ∀ k, k < 6 → J (t + 1) k = Int32.ofNat (f k)) (hg : ∀ k, k < 6 → J (t + 2) k = Int32.ofNat (g k)) (fr : ∀ o, (t + 3 ≤ o ∧ o ≤ t + 5) ∨ o = t + 7 ∨ o = t + 8 → ∀ k, J o k = I o k) : xTX J t (ab_lay A n f g) := by
  obtain ⟨⟨q1, q2, q3, q4, q5⟩, q6, q7, q8, q9, q10, q11, q12⟩ := q
  refine ⟨⟨h0, h1.trans q2, h2.trans q3, h3, h4.trans q5⟩, hf, hg, ?_, ?_, ?_, fun i hi => absurd hi (Nat.not_lt_zero _), ?_⟩
  · intro s hs l hl; rw [fr _ (by omega)]; exact q8 s hs l hl
  · intro k hk; rw [fr _ (by omega)]; exact q9 k hk
  · intro k hk; rw [fr _ (by omega)]; exact q10 k hk
  · intro k hk; rw [fr _ (by omega), fr _ (by omega)]; exact q12 k hk
theorem xTM_lay {I J : xI} {m n : Nat} {A : xAb} {f g : Nat → Nat} (q : xTM I m A) (h0 : J m 9 = Int32.ofNat n) (h1 : J m 10 = I m 10) (h2 : J m 20 = I m 20) (h4 : J m 17 = I m 17) (hf : ∀ k, k < 6 → J (m + 17) k = Int32.ofNat (f k)) (hg : ∀ k, k < n → J (m + 18) k = Int32.ofNat (g k)) (hk : ∀ p, p < 6 → ∀ k, k < 4 → J (m + 29 + p) k = -1) (fr : ∀ o, (m + 20 ≤ o ∧ o ≤ m + 27) ∨ o = m + 35 ∨ o = m + 36 → ∀ k, J o k = I o k) : xTM J m (ab_lay A n f g) := by
  obtain ⟨⟨q1, q2, q3, q4⟩, q6, q7, q8, q9, q10, q11, q12⟩ := q
  refine ⟨⟨h0, h1.trans q2, h2.trans q3, h4.trans q4⟩, hf, hg, ?_, ?_, ?_, hk, ?_⟩
  · intro s hs
    obtain ⟨q, r⟩ := q8 s hs
    exact ⟨fun l hl => by rw [fr _ (by omega)]; exact q l hl, by rw [fr _ (by omega)]; exact r⟩
  · intro k hk; rw [fr _ (by omega)]; exact q9 k hk
  · intro k hk; rw [fr _ (by omega)]; exact q10 k hk
  · intro k hk; rw [fr _ (by omega), fr _ (by omega)]; exact q12 k hk
theorem scrKn_Mt : ∀ o k, scrKn o k → scrMt o k := fun o k e => by unfold scrKn at e; unfold scrMt; omega
theorem pr_forget : xPq 147 219 [] := by
  intro c A I L z hc h
  have hA := h.1.1
  obtain ⟨t, t1, t2⟩ := h.2.2.2.2
  refine pr_c h (ab_lay A (ab_n A) (ab_pour A) (ab_stood A)) (abOK_lay hA hA.1 hA.2.2.1 hA.2.2.2.1 hA.2.2.2.2.1) (Int32.ofNat (ab_sign A).length) ?_ ?_
  · refine xupD (c_X8_forget ?_) (by decide)
    refine ⟨by rw [h.1.2.1.1.2.2.2.1], _, rfl, ?_, ?_, ?_, ?_, t, by omega, ?_⟩
    · exact xsm_xw (by unfold scrXt; omega) (xsm_xw (by unfold scrXt; omega) (xsm_refl _ _))
    · have q := h.1.2.1
      refine xTX_lay q ?_ ?_ ?_ ?_ ?_ ?_ ?_ ?_
      · rw [xw_ne2 (by decide), xw_ne2 (by decide)]; exact q.1.1
      · rw [xw_ne2 (by decide), xw_ne2 (by decide)]
      · rw [xw_ne2 (by decide), xw_ne2 (by decide)]
      · rw [xw_ne2 (by decide), xw_eq]
      · rw [xw_ne2 (by decide), xw_ne2 (by decide)]
      · intro k hk; rw [xw_ne1 (by decide), xw_ne1 (by decide)]; exact q.2.1 k hk
      · intro k hk; rw [xw_ne1 (by decide), xw_ne1 (by decide)]; exact q.2.2.1 k hk
      · intro o ho k; rw [xw_ne1 (by omega), xw_ne1 (by omega)]
    · intro t _ ht
      rw [xw_ne2 (by decide), xw_ne2 (by decide)]; exact ht
    · exact xCache_pos h.2.2.2.1 (aW_eq rfl rfl rfl) (by rw [xw_ne2 (by decide), xw_ne2 (by decide)]) (xw_eq _ _ _ _) (fun o ho k => by rw [xw_ne1 (by omega), xw_ne1 (by omega)])
    · exact xTal_sm (S := fun o _ => o = 10) (xsm_xw (by omega) (xsm_xw (by omega) (xsm_refl _ _))) (fun o k e => by omega) t2
  · intro J hJ _ hM
    refine c_X9_forget (d := 29) (g_X9_forget_0 (by decide) ?_)
    refine xuse (t_signsMany hA hM) (by decide) ?_
    rintro _ _ ⟨rfl, rfl⟩
    refine g_X9_forget_4 (by decide) ?_
    refine xuse t_forgets (by decide) ?_
    rintro _ _ ⟨rfl, K, rfl, hK, hk⟩
    refine g_X9_forget_9 (by decide) ⟨rfl, K, rfl, xsm_mono hK scrKn_Mt, ?_⟩
    have g : ∀ o, ¬ (95 ≤ o ∧ o ≤ 100) → ∀ k, K o k = J o k := fun o e k => hK o k e
    refine xTM_lay hM ?_ (g 66 (by omega) _) (g 66 (by omega) _) (g 66 (by omega) _) ?_ ?_ hk (fun o ho k => g o (by omega) k)
    · rw [g 66 (by omega)]; exact hM.1.1
    · intro k hk; rw [g _ (by omega)]; exact hM.2.1 k hk
    · intro k hk; rw [g _ (by omega)]; exact hM.2.2.1 k hk
theorem t_becomeCups {J : xI} {L : xL} {z : Bool × Bool × Nat} {n : Nat} : xCd 2 205 [.ref 66, .int (Int32.ofNat n)] (xS J L z) (qN (fun o k => (95 ≤ o ∧ o ≤ 100) ∨ (o = 66 ∧ k = 9) ∨ o = 83 ∨ o = 84) J L z (fun N => N 66 9 = Int32.ofNat n ∧ (∀ k, k < 6 → N 83 k = 0 ∧ N 84 k = 0) ∧ ∀ p, p < 6 → ∀ k, k < 4 → N (95 + p) k = -1)) := by
  refine c_X9_becomeCups (d := 1) (g_X9_becomeCups_0 (by decide) ?_)
  have key : ∀ i, i ≤ 6 → ∀ K : xI, xsm (fun o k => (o = 66 ∧ k = 9) ∨ o = 83 ∨ o = 84) J K → K 66 9 = Int32.ofNat n → (∀ k, k < i → K 83 k = 0 ∧ K 84 k = 0) → h_X9_becomeCups_7 1 (qN (fun o k => (95 ≤ o ∧ o ≤ 100) ∨ (o = 66 ∧ k = 9) ∨ o = 83 ∨ o = 84) J L z (fun N => N 66 9 = Int32.ofNat n ∧ (∀ k, k < 6 → N 83 k = 0 ∧ N 84 k = 0) ∧ ∀ p, p < 6 → ∀ k, k < 4 → N (95 + p) k = -1)) (0, 0) K L z (Int32.ofNat n) (Int32.ofNat i) := by
    refine xcount _ 6 ?_ ?_
    · intro i hi KK K hK k9 kf
      refine g_X9_becomeCups_7 (by decide) ?_
      rw [if_pos (show Int32.ofNat i < (6 : Int32) from (xv_lt (b := 6) (by omega) (by decide)).mpr hi), if_pos ((xv_in (by omega)).mpr hi), xv_clamp (by omega), show Int32.ofNat i + 1 = Int32.ofNat (i + 1) from xv_add i 1]
      refine KK _ (xsm_xw (by omega) (xsm_xw (by omega) hK)) (by rw [xw_ne1 (by decide), xw_ne1 (by decide)]; exact k9) ?_
      intro k hk
      rw [xw_ne1 (o := 84) (o' := 83) (by decide)]
      by_cases e : k = i
      · rw [e, xw_eq, xw_eq]; exact ⟨rfl, rfl⟩
      · rw [xw_ne2 e, xw_ne2 e, xw_ne1 (by decide)]; exact kf k (by omega)
    · intro K hK k9 kf
      refine g_X9_becomeCups_7 (by decide) ?_
      rw [if_neg (by decide)]
      refine xuse t_forgets (by decide) ?_
      rintro _ _ ⟨rfl, N, rfl, hN, nk⟩
      have g : ∀ o, ¬ (95 ≤ o ∧ o ≤ 100) → ∀ k, N o k = K o k := fun o e k => hN o k e
      refine g_X9_becomeCups_37 (by decide) ⟨rfl, N, rfl, fun o k e => (g o (by omega) k).trans (hK o k (by omega)), ?_, ?_, nk⟩
      · rw [g 66 (by omega)]; exact k9
      · intro k hk; rw [g 83 (by omega), g 84 (by omega)]; exact kf k hk
  exact key 0 (by decide) _ (xsm_xw (by omega) (xsm_refl _ _)) (xw_eq _ _ _ _) (fun k hk => absurd hk (Nat.not_lt_zero _))
theorem pr_cups (a1 : Int32) : xPq 140 206 [.int a1] := by
  intro c A I L z hc h
  have hA := h.1.1
  obtain ⟨t, t1, t2⟩ := h.2.2.2.2
  have e2 : (2 : Int32).toInt = 2 := rfl
  have e6 : (6 : Int32).toInt = 6 := rfl
  by_cases e : 2 ≤ a1.toInt ∧ a1.toInt ≤ 6
  · obtain ⟨n, hn, rfl⟩ := xr_nat (a := a1) (m := 7) (by omega)
    rw [xv_int (by omega)] at e
    refine pr_c h (ab_lay A n (fun _ => 0) (fun _ => 0)) (abOK_lay hA (by omega) (fun _ _ => by decide) (fun _ _ => by decide) (fun _ _ _ => ⟨rfl, rfl⟩)) (Int32.ofNat (ab_n A)) ?_ ?_
    · refine c_X8_cups (d := 29) (g_X8_cups_0 (by decide) ?_)
      rw [if_neg (show ¬ Int32.ofNat n < (2 : Int32) from fun q => by have := (xv_lt (b := 2) (by omega) (by decide)).mp q; omega), if_neg (show ¬ (6 : Int32) < Int32.ofNat n from fun q => by have := (xv_lt (a := 6) (by decide) (by omega)).mp q; omega)]
      refine c_X6_layCups (d := 28) (g_X6_layCups_0 (by decide) ?_)
      refine xuse (s_J7_fill (n := 6) rfl rfl rfl rfl (by decide)) (by decide) ?_
      rintro _ _ ⟨rfl, rfl⟩
      refine g_X6_layCups_13 (by decide) ?_
      refine xuse (s_J7_fill (n := 6) rfl rfl rfl rfl (by decide)) (by decide) ?_
      rintro _ _ ⟨rfl, rfl⟩
      refine g_X6_layCups_21 (by decide) (g_X8_cups_34 (by decide) ?_)
      have g : ∀ o, o ≠ 10 → o ≠ 11 → o ≠ 12 → ∀ k, (xw (xw (xw (xfil (xfil (xw I 10 0 (Int32.ofNat n)) 11 6 0) 12 6 0) 10 5 1) 10 3 0) 10 6 1) o k = I o k := by
        intro o a b d k
        rw [xw_ne1 a, xw_ne1 a, xw_ne1 a]
        unfold xfil
        rw [if_neg (fun q => d q.1), if_neg (fun q => b q.1), xw_ne1 a]
      have g10 : ∀ k, k ≠ 0 → k ≠ 3 → k ≠ 5 → k ≠ 6 → (xw (xw (xw (xfil (xfil (xw I 10 0 (Int32.ofNat n)) 11 6 0) 12 6 0) 10 5 1) 10 3 0) 10 6 1) 10 k = I 10 k := by
        intro k a b d e
        rw [xw_ne2 e, xw_ne2 b, xw_ne2 d]
        unfold xfil
        rw [if_neg (fun q => absurd q.1 (by decide)), if_neg (fun q => absurd q.1 (by decide)), xw_ne2 a]
      refine ⟨by rw [h.1.2.1.1.1], _, rfl, ?_, ?_, ?_, ?_, t, by omega, ?_⟩
      · intro o k hs
        exact g o (fun e => hs (by unfold scrXt; omega)) (fun e => hs (by unfold scrXt; omega)) (fun e => hs (by unfold scrXt; omega)) k
      · refine xTX_lay h.1.2.1 ?_ (g10 1 (by decide) (by decide) (by decide) (by decide)) (g10 2 (by decide) (by decide) (by decide) (by decide)) (by rw [xw_ne2 (by decide), xw_eq]) (g10 4 (by decide) (by decide) (by decide) (by decide)) ?_ ?_ (fun o ho k => g o (by omega) (by omega) (by omega) k)
        · rw [xw_ne2 (by decide), xw_ne2 (by decide), xw_ne2 (by decide)]
          unfold xfil
          rw [if_neg (fun q => absurd q.1 (by decide)), if_neg (fun q => absurd q.1 (by decide)), xw_eq]
        · intro k hk
          rw [xw_ne1 (by decide), xw_ne1 (by decide), xw_ne1 (by decide)]
          unfold xfil
          rw [if_neg (fun q => absurd q.1 (by decide)), if_pos ⟨rfl, hk⟩]; rfl
        · intro k hk
          rw [xw_ne1 (by decide), xw_ne1 (by decide), xw_ne1 (by decide)]
          unfold xfil
          rw [if_pos ⟨rfl, hk⟩]; rfl
      · intro t _ ht
        rw [g10 4 (by decide) (by decide) (by decide) (by decide)]; exact ht
      · refine Or.inl ?_
        rw [xw_ne2 (by decide), xw_ne2 (by decide), xw_eq]
      · exact xTal_sm (S := fun o _ => o = 10 ∨ o = 11 ∨ o = 12) (fun o k e => g o (by omega) (by omega) (by omega) k) (fun o k e => by omega) t2
    · intro J hJ _ hM
      refine c_X9_cups (d := 29) (g_X9_cups_0 (by decide) ?_)
      rw [if_pos ((xp_in (by decide) (by decide)).mpr (by rw [xv_int (by omega)]; omega)), hM.1.1]
      refine xuse (t_becomeCups (n := n)) (by decide) ?_
      rintro _ _ ⟨rfl, N, rfl, g2, k9, kf, nk⟩
      refine g_X9_cups_31 (by decide) ⟨rfl, N, rfl, fun o k e => g2 o k (fun q => e (by unfold scrMt; omega)), ?_⟩
      exact xTM_lay hM k9 (g2 66 _ (by omega)) (g2 66 _ (by omega)) (g2 66 _ (by omega)) (fun k hk => (kf k hk).1) (fun k hk => (kf k (by omega)).2) nk (fun o ho k => g2 o k (by omega))
  · refine pr_q h 2 0 ?_ ?_
    · refine c_X8_cups (d := 29) (g_X8_cups_0 (by decide) ?_)
      by_cases a : a1 < 2
      · rw [if_pos a]; exact oX_no h (by decide) (by decide)
      · rw [if_neg a, if_pos (by rw [Int32.lt_iff_toInt_lt] at a ⊢; omega)]; exact oX_no h (by decide) (by decide)
    · intro J hJ hM
      refine c_X9_cups (d := 29) (g_X9_cups_0 (by decide) ?_)
      rw [if_neg (fun q => e (by have := (xp_in (by decide) (by decide)).mp q; omega))]
      exact oM_no (xsm_refl _ _) (by decide) (by decide)
