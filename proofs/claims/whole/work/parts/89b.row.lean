theorem xi_rsort {I : xI} {L : xL} {a : Int32} : p_X2_isSort I L a ↔ (0 ≤ a.toInt ∧ a.toInt < (5 : Nat)) := by
  show (¬ a < 0 ∧ a < 5) ↔ _
  simp only [Int32.lt_iff_toInt_lt, ti_0, ti_5]
  omega
theorem xi_size {I : xI} {L : xL} {a : Int32} : p_X2_isSize I L a ↔ (0 ≤ a.toInt ∧ a.toInt < (41 : Nat)) := by
  show (¬ a < 0 ∧ ¬ 40 < a) ↔ _
  simp only [Int32.lt_iff_toInt_lt, ti_0, show (40 : Int32).toInt = 40 from rfl]
  omega
theorem xis_shelf {I : xI} {L : xL} {z : Bool × Bool × Nat} {s : Nat} (hs : s < 8) : xis (xS I L z) (70 + 1 + s) 21 = true ∧ (xis (xS I L z) (70 + 1 + s) 21 && Nat.blt 8 (70 + 1 + s)) = true ∧ xlen z.2.2 (70 + 1 + s) = 40 := by
  have hk : s = 0 ∨ s = 1 ∨ s = 2 ∨ s = 3 ∨ s = 4 ∨ s = 5 ∨ s = 6 ∨ s = 7 := by omega
  obtain rfl | rfl | rfl | rfl | rfl | rfl | rfl | rfl := hk <;> exact ⟨rfl, rfl, rfl⟩
/-- another shelf's row, when one changes -/
theorem xShM_other {I J : xI} {L M : xL} {s s' : Nat} (hs' : s' < 8) (d : s' ≠ s) (h : xShM I L s') (hJ : ∀ o k, ¬ (o = 58 ∨ o = 59 ∨ (67 ≤ o ∧ o ≤ 69)) ∨ k ≠ s → (o = 58 ∨ o = 59 ∨ (67 ≤ o ∧ o ≤ 69) ∨ o = 80 ∨ o = 10) → J o k = I o k) (hM : ∀ k, ¬ (s * 40 ≤ k ∧ k < s * 40 + 40) → M 60 k = L 60 k) (hN : ∀ o, 71 ≤ o ∧ o ≤ 78 → o ≠ 71 + s → ∀ k, M o k = L o k) : xShM J M s' := by
  refine xShM_congr h (hJ _ _ (Or.inr d) (by omega)) (hJ _ _ (Or.inr d) (by omega)) (hJ _ _ (Or.inr d) (by omega)) (hJ _ _ (Or.inr d) (by omega)) (hJ _ _ (Or.inr d) (by omega)) (hJ _ _ (Or.inl (by omega)) (by omega)) (hJ _ _ (Or.inl (by omega)) (by omega)) ?_
  intro i hi e
  rw [hM _ (by omega), hN _ (by omega) (by omega)]; exact e
theorem pr_row (a1 a2 a3 : Int32) : xPq 133 193 [.int a1, .int a2, .int a3] := by
  intro c A I L z hc h
  have m1 : ∀ J : xI, ∀ M : xL, p_X9_in J M (Int32.toInt64 a1) (Int64.ofNat 0) (Int64.ofNat 7) ↔ (0 ≤ a1.toInt ∧ a1.toInt < (8 : Nat)) := fun J M => xm_in (by decide) (by decide)
  have m2 : ∀ J : xI, ∀ M : xL, p_X9_in J M (Int32.toInt64 a2) (Int64.ofNat 0) (Int64.ofNat 4) ↔ (0 ≤ a2.toInt ∧ a2.toInt < (5 : Nat)) := fun J M => xm_in (by decide) (by decide)
  have m3 : ∀ J : xI, ∀ M : xL, p_X9_in J M (Int32.toInt64 a3) (Int64.ofNat 0) (Int64.ofNat 40) ↔ (0 ≤ a3.toInt ∧ a3.toInt < (41 : Nat)) := fun J M => xm_in (by decide) (by decide)
  obtain ⟨t, t1, t2⟩ := h.2.2.2.2
  by_cases e : (0 ≤ a1.toInt ∧ a1.toInt < (8 : Nat)) ∧ (0 ≤ a2.toInt ∧ a2.toInt < (5 : Nat)) ∧ (0 ≤ a3.toInt ∧ a3.toInt < (41 : Nat))
  · obtain ⟨e1, e2, e3⟩ := e
    obtain ⟨s, hs, rfl⟩ := xr_nat e1
    obtain ⟨v, hv, rfl⟩ := xr_nat e2
    obtain ⟨n, hn, rfl⟩ := xr_nat e3
    have hxin : xin (Int32.ofNat s) 8 := (xv_in (by omega)).mpr hs
    refine pr_s h 1 (fun J M => J = xw (xw I 58 s (Int32.ofNat v)) 59 s (Int32.ofNat n) ∧ (∀ k, (s * 40 ≤ k ∧ k < s * 40 + 40) → M 60 k = 0) ∧ ∀ o k, ¬ (o = 60 ∧ s * 40 ≤ k ∧ k < s * 40 + 40) → M o k = L o k) ?_ ?_
    · refine c_X8_row (d := 29) (g_X8_row_0 (by decide) ?_)
      rw [if_pos (xi_shelf.mpr e1), if_pos (xi_rsort.mpr e2), if_pos (xi_size.mpr e3)]
      refine c_X2_putRow (d := 28) (g_X2_putRow_0 (by decide) ?_)
      rw [if_pos (xi_shelf.mpr e1), if_pos hxin, xv_clamp (show s < 2147483648 by omega), show Int32.ofNat s * 40 = Int32.ofNat (s * 40) from xv_mul s 40]
      let Q : xQ := fun r τ => xEX k_X8_row 1 (xCd 29) (oXs c A I L z 1 (fun J M => J = xw (xw I 58 s (Int32.ofNat v)) 59 s (Int32.ofNat n) ∧ (∀ k, (s * 40 ≤ k ∧ k < s * 40 + 40) → M 60 k = 0) ∧ ∀ o k, ¬ (o = 60 ∧ s * 40 ≤ k ∧ k < s * 40 + 40) → M o k = L o k)) 38 [some (.ref 9), some (.int (Int32.ofNat s)), some (.int (Int32.ofNat v)), some (.int (Int32.ofNat n))] (r.toList ++ []) τ (0, 0)
      have key : ∀ i, i ≤ 40 → ∀ M : xL, (∀ k, (s * 40 ≤ k ∧ k < s * 40 + i) → M 60 k = 0) → (∀ o k, ¬ (o = 60 ∧ s * 40 ≤ k ∧ k < s * 40 + 40) → M o k = L o k) → h_X2_putRow_32 28 Q (0, 0) (xw (xw I 58 s (Int32.ofNat v)) 59 s (Int32.ofNat n)) M z (Int32.ofNat s) (Int32.ofNat v) (Int32.ofNat n) (Int32.ofNat (s * 40)) (Int32.ofNat (s * 40 + i)) := by
        refine xcount (fun i => ∀ M : xL, (∀ k, (s * 40 ≤ k ∧ k < s * 40 + i) → M 60 k = 0) → (∀ o k, ¬ (o = 60 ∧ s * 40 ≤ k ∧ k < s * 40 + 40) → M o k = L o k) → h_X2_putRow_32 28 Q (0, 0) (xw (xw I 58 s (Int32.ofNat v)) 59 s (Int32.ofNat n)) M z (Int32.ofNat s) (Int32.ofNat v) (Int32.ofNat n) (Int32.ofNat (s * 40)) (Int32.ofNat (s * 40 + i))) 40 ?_ ?_
        · intro i hi KK M q1 q2
          refine g_X2_putRow_32 (by decide) ?_
          rw [show Int32.ofNat (s * 40) + 40 = Int32.ofNat (s * 40 + 40) from xv_add _ 40, if_pos ((xv_lt (by omega) (by omega)).mpr (by omega)), if_pos ((xv_in (by omega)).mpr (by omega)), xv_clamp (by omega), show Int32.ofNat (s * 40 + i) + 1 = Int32.ofNat (s * 40 + (i + 1)) from xv_add _ 1]
          refine KK _ ?_ ?_
          · intro k hk
            by_cases d : k = s * 40 + i
            · rw [d, xwl_eq]; rfl
            · rw [xwl_ne (fun q => d q.2)]; exact q1 k (by omega)
          · intro o k hk
            rw [xwl_ne (by omega)]; exact q2 o k hk
        · intro M q1 q2
          refine g_X2_putRow_32 (by decide) ?_
          rw [show Int32.ofNat (s * 40) + 40 = Int32.ofNat (s * 40 + 40) from xv_add _ 40, if_neg (fun q => absurd ((xv_lt (by omega) (by omega)).mp q) (Nat.lt_irrefl _))]
          refine g_X8_row_38 (by decide) ⟨rfl, _, M, rfl, ?_, ?_, ⟨t, by omega, ?_⟩, rfl, q1, q2⟩
          · exact xsm_xw (by unfold scrXs; omega) (xsm_xw (by unfold scrXs; omega) (xsm_refl _ _))
          · exact xCache_sm (S := fun o _ => o = 58 ∨ o = 59) (xsm_xw (by omega) (xsm_xw (by omega) (xsm_refl _ _))) (fun o k e => by unfold noC; omega) h.2.2.2.1
          · exact xTal_sm (S := fun o _ => o = 58 ∨ o = 59) (xsm_xw (by omega) (xsm_xw (by omega) (xsm_refl _ _))) (fun o k e => by omega) t2
      exact key 0 (by decide) L (fun k hk => by omega) (fun o k _ => rfl)
    · rintro J M hJ hX hM ⟨j0, j1, j2⟩
      subst j0
      refine c_X9_row (d := 29) (g_X9_row_0 (by decide) ?_)
      rw [if_pos ((m1 _ M).mpr e1), if_pos ((m2 _ M).mpr e2), if_pos ((m3 _ M).mpr e3), if_pos hxin, xv_clamp (show s < 2147483648 by omega)]
      have key : ∀ i, i ≤ 40 → ∀ N : xL, (∀ k, k < i → N (71 + s) k = 0) → (∀ o k, o ≠ 71 + s → N o k = M o k) → h_X9_row_67 29 (oMs (xw (xw I 58 s (Int32.ofNat v)) 59 s (Int32.ofNat n)) z 1) (0, 0) (xw (xw (xw (xw (xw I 58 s (Int32.ofNat v)) 59 s (Int32.ofNat n)) 67 s 1) 68 s (Int32.ofNat v)) 69 s (Int32.ofNat n)) N z (Int32.ofNat s) (Int32.ofNat v) (Int32.ofNat n) (Int32.ofNat i) := by
        refine xcount (fun i => ∀ N : xL, (∀ k, k < i → N (71 + s) k = 0) → (∀ o k, o ≠ 71 + s → N o k = M o k) → h_X9_row_67 29 (oMs (xw (xw I 58 s (Int32.ofNat v)) 59 s (Int32.ofNat n)) z 1) (0, 0) (xw (xw (xw (xw (xw I 58 s (Int32.ofNat v)) 59 s (Int32.ofNat n)) 67 s 1) 68 s (Int32.ofNat v)) 69 s (Int32.ofNat n)) N z (Int32.ofNat s) (Int32.ofNat v) (Int32.ofNat n) (Int32.ofNat i)) 40 ?_ ?_
        · intro i hi KK N q1 q2
          refine g_X9_row_67 (by decide) ?_
          rw [if_pos (show Int32.ofNat i < (40 : Int32) from (xv_lt (b := 40) (by omega) (by decide)).mpr hi), if_pos hxin, xv_clamp (show s < 2147483648 by omega)]
          have q := xis_shelf (I := (xw (xw (xw (xw (xw I 58 s (Int32.ofNat v)) 59 s (Int32.ofNat n)) 67 s 1) 68 s (Int32.ofNat v)) 69 s (Int32.ofNat n))) (L := N) (z := z) hs
          refine xbifT q.2.1 ?_
          rw [q.2.2, if_pos ((xv_in (by omega)).mpr hi), xv_clamp (show i < 2147483648 by omega), show Int32.ofNat i + 1 = Int32.ofNat (i + 1) from xv_add i 1]
          refine KK _ ?_ ?_
          · intro k hk
            by_cases d : k = i
            · rw [d, show 70 + 1 + s = 71 + s from rfl, xwl_eq]; rfl
            · rw [xwl_ne (fun q => d q.2)]; exact q1 k (by omega)
          · intro o k hk
            rw [xwl_ne1 (by omega)]; exact q2 o k hk
        · intro N q1 q2
          refine g_X9_row_67 (by decide) ?_
          rw [if_neg (by decide)]
          refine ⟨rfl, _, N, rfl, xsm_xw (by unfold scrMs; omega) (xsm_xw (by unfold scrMs; omega) (xsm_xw (by unfold scrMs; omega) (xsm_refl _ _))), ?_⟩
          intro s' hs'
          by_cases d : s' = s
          · subst d
            refine Or.inr (Or.inl ⟨v, n, hv, by omega, ?_, ?_, ?_, ?_, ?_, ?_⟩)
            · rw [xw_ne1 (by decide), xw_ne1 (by decide), xw_ne1 (by decide), xw_ne1 (by decide), xw_eq]
            · rw [xw_ne1 (by decide), xw_ne1 (by decide), xw_ne1 (by decide), xw_eq]
            · rw [xw_ne1 (by decide), xw_ne1 (by decide), xw_eq]
            · rw [xw_ne1 (by decide), xw_eq]
            · rw [xw_eq]
            · intro i hi
              rw [q2 60 _ (by omega), j1 _ (by omega), q1 i (by omega)]
          · refine xShM_other hs' d (h.1.2.2.2.1 s' hs') ?_ ?_ ?_
            · intro o k hk ho
              rw [xw_ne (by omega), xw_ne (by omega), xw_ne (by omega), xw_ne (by omega), xw_ne (by omega)]
            · intro k hk; rw [q2 60 k (by omega), j2 60 k (by omega)]
            · intro o ho hne k; rw [q2 o k hne, j2 o k (by omega)]
      exact key 0 (by decide) M (fun k hk => absurd hk (Nat.not_lt_zero _)) (fun o k _ => rfl)
  · refine pr_q h 2 0 ?_ ?_
    · exact c_X8_row (d := 29) (g_X8_row_0 (by decide) (no3 e xi_shelf xi_rsort xi_size (oX_no h (by decide) (by decide))))
    · intro J hJ hM
      exact c_X9_row (d := 29) (g_X9_row_0 (by decide) (no3 e (m1 J L) (m2 J L) (m3 J L) (oM_no (xsm_refl _ _) (by decide) (by decide))))
