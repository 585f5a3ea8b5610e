/-! changes: a sort's number, signs forgotten, cups laid -/
theorem no3 {p q r p' q' r' X Y : Prop} [Decidable p] [Decidable q] [Decidable r] (h : ¬ (p' ∧ q' ∧ r')) (h1 : p ↔ p') (h2 : q ↔ q') (h3 : r ↔ r') (y : Y) : if p then (if q then (if r then X else Y) else Y) else Y := by
  by_cases a : p
  · rw [if_pos a]
    by_cases b : q
    · rw [if_pos b, if_neg (fun d => h ⟨h1.mp a, h2.mp b, h3.mp d⟩)]; exact y
    · rw [if_neg b]; exact y
  · rw [if_neg a]; exact y
theorem no2 {p q p' q' X Y : Prop} [Decidable p] [Decidable q] (h : ¬ (p' ∧ q')) (h1 : p ↔ p') (h2 : q ↔ q') (y : Y) : if p then (if q then X else Y) else Y := by
  by_cases a : p
  · rw [if_pos a, if_neg (fun d => h ⟨h1.mp a, h2.mp d⟩)]; exact y
  · rw [if_neg a]; exact y
theorem ti_5 : (5 : Int32).toInt = 5 := rfl
theorem xi_sort {I : xI} {L : xL} {a : Int32} : p_X8_isSort I L a ↔ (0 ≤ a.toInt ∧ a.toInt < (6 : Nat)) := by
  show (¬ a < 0 ∧ a < 6) ↔ _
  simp only [Int32.lt_iff_toInt_lt, ti_0, ti_6]
  omega
theorem xi_look {I : xI} {L : xL} {a : Int32} : p_X8_isLook I L a ↔ (0 ≤ a.toInt ∧ a.toInt < (3 : Nat)) := by
  show (¬ a < 0 ∧ a < 3) ↔ _
  simp only [Int32.lt_iff_toInt_lt, ti_0, ti_3]
  omega
theorem xi_number {I : xI} {L : xL} {a : Int32} : p_X8_isNumber I L a ↔ (0 ≤ a.toInt ∧ a.toInt < (10 : Nat)) := by
  show (¬ a < 0 ∧ ¬ 9 < a) ↔ _
  simp only [Int32.lt_iff_toInt_lt, ti_0, ti_9]
  omega
theorem pr_sort (a1 a2 a3 : Int32) : xPq 143 212 [.int a1, .int a2, .int a3] := by
  intro c A I L z hc h
  have hA := h.1.1
  have m1 : ∀ J : xI, p_X9_in J L (Int32.toInt64 a1) (Int64.ofNat 0) (Int64.ofNat 5) ↔ (0 ≤ a1.toInt ∧ a1.toInt < (6 : Nat)) := fun J => xm_in (by decide) (by decide)
  have m2 : ∀ J : xI, p_X9_in J L (Int32.toInt64 a2) (Int64.ofNat 0) (Int64.ofNat 2) ↔ (0 ≤ a2.toInt ∧ a2.toInt < (3 : Nat)) := fun J => xm_in (by decide) (by decide)
  have m3 : ∀ J : xI, p_X9_in J L (Int32.toInt64 a3) (Int64.ofNat 0) (Int64.ofNat 9) ↔ (0 ≤ a3.toInt ∧ a3.toInt < (10 : Nat)) := fun J => xm_in (by decide) (by decide)
  by_cases e : (0 ≤ a1.toInt ∧ a1.toInt < (6 : Nat)) ∧ (0 ≤ a2.toInt ∧ a2.toInt < (3 : Nat)) ∧ (0 ≤ a3.toInt ∧ a3.toInt < (10 : Nat))
  · obtain ⟨e1, e2, e3⟩ := e
    obtain ⟨s, hs, rfl⟩ := xr_nat e1
    obtain ⟨l, hl, rfl⟩ := xr_nat e2
    obtain ⟨v, hv, rfl⟩ := xr_nat e3
    refine pr_c h (ab_sortTo A s l v) ?_ (Int32.ofNat (ab_mark A s l)) ?_ ?_
    · obtain ⟨k1, k2, k3, k4, k5, k6, k7⟩ := hA
      refine ⟨k1, k2, k3, k4, k5, ?_, k7⟩
      intro s' hs' l' hl'
      show (if s' = s ∧ l' = l then v else ab_mark A s' l') < 10
      by_cases q : s' = s ∧ l' = l
      · rw [if_pos q]; exact hv
      · rw [if_neg q]; exact k6 s' hs' l' hl'
    · refine xupD (c_X8_sort ?_) (by decide)
      rw [if_pos (xi_sort.mpr e1), if_pos (xi_look.mpr e2), if_pos (xi_number.mpr e3)]
      have q := f_num (L := L) (k := l) (s := s) h.1.2.1 (by omega) hs
      rw [q]
      have ix : Int32.ofNat s * 3 + Int32.ofNat l = Int32.ofNat (s * 3 + l) := by
        rw [show Int32.ofNat s * 3 = Int32.ofNat (s * 3) from xv_mul s 3, xv_add]
      rw [ix, if_neg (xv_neg (by omega)), if_pos (show Int32.ofNat (s * 3 + l) < (18 : Int32) from (xv_lt (b := 18) (by omega) (by decide)).mpr (by omega)), if_pos ((xv_in (by omega)).mpr (by omega)), xv_clamp (by omega)]
      obtain ⟨t, t1, t2⟩ := h.2.2.2.2
      refine ⟨?_, _, rfl, ?_, ?_, ?_, ?_, t, by omega, ?_⟩
      · unfold aNum; rw [if_neg (by omega)]
      · exact xsm_xw (by unfold scrXt; omega) (xsm_xw (by unfold scrXt; omega) (xsm_refl _ _))
      · exact xTX_old (by decide) (xTX_sort hl h.1.2.1)
      · intro t _ ht
        rw [xw_ne2 (by decide), xw_ne1 (by decide)]; exact ht
      · exact xCache_pos h.2.2.2.1 (aW_eq rfl rfl rfl) (by rw [xw_ne2 (by decide), xw_ne1 (by decide)]) (xw_eq _ _ _ _) (fun o ho k => by rw [xw_ne1 (by omega), xw_ne1 (by omega)])
      · exact xTal_sm (S := fun o _ => o = 10 ∨ o = 13) (xsm_xw (by omega) (xsm_xw (by omega) (xsm_refl _ _))) (fun o k e => by omega) t2
    · intro J hJ _ hM
      refine xupD (c_X9_sort ?_) (by decide)
      rw [if_pos ((m1 J).mpr e1), if_pos ((m2 J).mpr e2), if_pos ((m3 J).mpr e3)]
      simp only [if_pos ((xv_in (n := 6) (show s < 2147483648 by omega)).mpr hs)]
      rw [xv_clamp (show s < 2147483648 by omega)]
      have k1 : xisi (xS J L z) (85 + 1 + s) = true := by
        have hk : s = 0 ∨ s = 1 ∨ s = 2 ∨ s = 3 ∨ s = 4 ∨ s = 5 := by omega
        obtain rfl | rfl | rfl | rfl | rfl | rfl := hk <;> rfl
      have k3 : (xis (xS J L z) (85 + 1 + s) 20 && Nat.blt 8 (85 + 1 + s)) = true := by
        have hk : s = 0 ∨ s = 1 ∨ s = 2 ∨ s = 3 ∨ s = 4 ∨ s = 5 := by omega
        obtain rfl | rfl | rfl | rfl | rfl | rfl := hk <;> rfl
      have k2 : xlen z.2.2 (85 + 1 + s) = 4 := by
        have hk : s = 0 ∨ s = 1 ∨ s = 2 ∨ s = 3 ∨ s = 4 ∨ s = 5 := by omega
        obtain rfl | rfl | rfl | rfl | rfl | rfl := hk <;> rfl
      refine xbifT k1 ?_
      rw [k2, if_pos ((xv_in (show l < 2147483648 by omega)).mpr (by omega))]
      refine xbifT k3 ?_
      rw [if_pos ((xv_in (show l < 2147483648 by omega)).mpr (by omega)), xv_clamp (show l < 2147483648 by omega)]
      refine ⟨?_, _, rfl, ?_, ?_⟩
      · rw [show 85 + 1 + s = 66 + 20 + s from rfl, (hM.2.2.2.1 s hs).1 l hl]
      · exact xsm_xw (by unfold scrMt; omega) (xsm_refl _ _)
      · exact xTM_sort hs hl hM
  · refine pr_q h 2 0 ?_ ?_
    · exact xupD (c_X8_sort (no3 e xi_sort xi_look xi_number (oX_no h (by decide) (by decide)))) (by decide)
    · intro J hJ hM
      exact xupD (c_X9_sort (no3 e (m1 J) (m2 J) (m3 J) (oM_no (xsm_refl _ _) (by decide) (by decide)))) (by decide)
