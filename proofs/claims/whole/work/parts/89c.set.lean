theorem cut_fit {I J : xI} {L M : xL} (a : Int32) (b : Int64) : f_X9_fit J M a b = f_X2_cutTo I L a b := rfl
/-- what a shelf bears, as both ask it -/
theorem sh_kind {I : xI} {L : xL} {s : Nat} (h : xShM I L s) : (I 58 s = -1 ∧ I 67 s = 0) ∨ (∃ v n, v < 5 ∧ n ≤ 40 ∧ I 58 s = Int32.ofNat v ∧ I 59 s = Int32.ofNat n ∧ I 67 s = 1 ∧ I 68 s = Int32.ofNat v ∧ I 69 s = Int32.ofNat n) ∨ (∃ t, t < 4 ∧ I 58 s = Int32.ofNat (10 + t) ∧ I 67 s = 2) := by
  rcases h with h | ⟨v, n, e1, e2, e3, e4, e5, e6, e7, e8⟩ | ⟨t, e1, e2, e3, e4, e5⟩
  · exact Or.inl h
  · exact Or.inr (Or.inl ⟨v, n, e1, e2, e3, e4, e5, e6, e7⟩)
  · exact Or.inr (Or.inr ⟨t, e1, e3, e4⟩)
theorem xp_row {I : xI} {L : xL} {s v : Nat} (hs : s < 8) (hv : v < 5) (h : I 58 s = Int32.ofNat v) : p_X2_hasRow I L (Int32.ofNat s) := by
  refine ⟨xv_neg (by omega), (xv_lt (b := 8) (by omega) (by decide)).mpr hs, (xv_in (by omega)).mpr hs, ?_, (xv_in (by omega)).mpr hs, ?_⟩
  · rw [xv_clamp (by omega), h]; exact xv_neg (by omega)
  · rw [xv_clamp (by omega), h]; exact (xv_lt (b := 5) (by omega) (by decide)).mpr hv
theorem xp_norow {I : xI} {L : xL} {s : Nat} (hs : s < 8) (h : I 58 s = -1 ∨ ∃ t, t < 4 ∧ I 58 s = Int32.ofNat (10 + t)) : ¬ p_X2_hasRow I L (Int32.ofNat s) := by
  rintro ⟨_, _, _, a, _, b⟩
  rw [xv_clamp (by omega)] at a b
  rcases h with h | ⟨t, _, h⟩
  · rw [h] at a; exact a (by decide)
  · rw [h] at b
    have := (xv_lt (b := 5) (by omega) (by decide)).mp b
    omega
theorem f_fault {I : xI} {L : xL} {s : Nat} (hs : s < 8) (h : xShM I L s) : f_X2_faultOfRow I L (Int32.ofNat s) = if I 67 s = 2 then -3 else if I 67 s = 0 then -4 else 0 := by
  unfold f_X2_faultOfRow
  have e1 : p_X2_isShelf I L (Int32.ofNat s) := ⟨xv_neg (by omega), (xv_lt (b := 8) (by omega) (by decide)).mpr hs⟩
  rw [if_pos e1]
  rcases sh_kind h with ⟨a, b⟩ | ⟨v, n, a, _, b, _, d, _⟩ | ⟨t, a, b, d⟩
  · rw [if_neg (xp_norow hs (Or.inl a)), if_pos ((xv_in (by omega)).mpr hs), xv_clamp (by omega), a, b, if_pos rfl, if_neg (by decide), if_pos rfl]
  · rw [if_pos (xp_row hs a b), d, if_neg (by decide), if_neg (by decide)]
  · rw [if_neg (xp_norow hs (Or.inr ⟨t, a, b⟩)), if_pos ((xv_in (by omega)).mpr hs), xv_clamp (by omega), b, d, if_neg (by rw [show (-1 : Int32) = -(Int32.ofNat 1) from rfl, xv_m1 (by omega) (by decide) (by decide)]; exact id), if_pos rfl]
theorem xp_el {I : xI} {L : xL} {s v n : Nat} {a : Int32} (hs : s < 8) (hv : v < 5) (hn : n ≤ 40) (h : I 58 s = Int32.ofNat v) (h2 : I 59 s = Int32.ofNat n) : p_X2_hasElement I L (Int32.ofNat s) a ↔ (0 ≤ a.toInt ∧ a.toInt < (n : Int)) := by
  have R := xp_row (L := L) hs hv h
  show (p_X2_hasRow I L (Int32.ofNat s) ∧ (¬ a < 0 ∧ (xin (Int32.ofNat s) 8 ∧ (a < I 59 (Int32.toNatClampNeg (Int32.ofNat s)) ∧ a < 40)))) ↔ _
  rw [xv_clamp (by omega), h2]
  simp only [Int32.lt_iff_toInt_lt, ti_0, xv_int (show n < 2147483648 by omega), show (40 : Int32).toInt = 40 from rfl]
  constructor
  · rintro ⟨_, b, _, d, _⟩; omega
  · rintro ⟨b, d⟩; exact ⟨R, by omega, (xv_in (by omega)).mpr hs, d, by omega⟩
theorem xm_el {I : xI} {L : xL} {n : Nat} {a : Int32} (hn : n ≤ 40) : p_X9_in I L (Int32.toInt64 a) (Int64.ofNat 0) (Int32.toInt64 (Int32.ofNat n - 1)) ↔ (0 ≤ a.toInt ∧ a.toInt < (n : Int)) := by
  rw [xp_inG, xv_less1 n (by omega), show (Int64.ofNat 0).toInt = 0 from rfl]
  omega
theorem pr_set (a1 a2 : Int32) (a3 : Int64) : xPq 134 196 [.int a1, .int a2, .long a3] := by
  intro c A I L z hc h
  have m1 : ∀ J : xI, p_X9_in J L (Int32.toInt64 a1) (Int64.ofNat 0) (Int64.ofNat 7) ↔ (0 ≤ a1.toInt ∧ a1.toInt < (8 : Nat)) := fun J => xm_in (by decide) (by decide)
  obtain ⟨t, t1, t2⟩ := h.2.2.2.2
  by_cases e1 : 0 ≤ a1.toInt ∧ a1.toInt < (8 : Nat)
  · obtain ⟨s, hs, rfl⟩ := xr_nat e1
    have hxin : xin (Int32.ofNat s) 8 := (xv_in (by omega)).mpr hs
    have hsh := h.1.2.2.2.1 s hs
    have ff := f_fault hs hsh
    -- refusals for what lies there
    have no : ∀ k : Nat, (k = 3 ∧ I 67 s = 2) ∨ (k = 4 ∧ I 67 s = 0) → xCd 30 134 [.ref 9, .int (Int32.ofNat s), .int a2, .long a3] (xS I L z) (fun r τ => xCd 30 196 [.ref 66, .int (Int32.ofNat s), .int a2, .long a3] τ (fun r' τ' => r' = r ∧ ∃ A' I' L' z', τ' = xS I' L' z' ∧ xInv (c + 1) A' I' L' z')) := by
      intro k hk
      refine pr_q h k 0 ?_ ?_
      · refine xupD (c_X8_set ?_) (by decide)
        rw [ff]
        rcases hk with ⟨rfl, q⟩ | ⟨rfl, q⟩
        · rw [q, if_pos rfl, if_neg (by decide)]; exact oX_no h (by decide) (by decide)
        · rw [q, if_neg (by decide), if_pos rfl, if_neg (by decide)]; exact oX_no h (by decide) (by decide)
      · intro J hJ hM
        refine xupD (c_X9_set ?_) (by decide)
        have j67 : J 67 s = I 67 s := hJ _ _ (by unfold scrXr scrX; omega)
        simp only [xv_clamp (show s < 2147483648 by omega)]
        rw [if_pos ((m1 J).mpr e1), if_pos hxin, j67]
        rcases hk with ⟨rfl, q⟩ | ⟨rfl, q⟩
        · rw [q, if_pos rfl]; exact oM_no (xsm_refl _ _) (by decide) (by decide)
        · rw [q, if_neg (by decide), if_pos hxin, if_pos rfl]; exact oM_no (xsm_refl _ _) (by decide) (by decide)
    rcases sh_kind hsh with ⟨g1, g2⟩ | ⟨v, n, b1, b2, g1, g2, g3, g4, g5⟩ | ⟨u, b1, g1, g2⟩
    · exact no 4 (Or.inr ⟨rfl, g2⟩)
    · have f0 : f_X2_faultOfRow I L (Int32.ofNat s) = 0 := by rw [ff, g3, if_neg (by decide), if_neg (by decide)]
      have X := xp_el (L := L) (a := a2) hs b1 b2 g1 g2
      by_cases e2 : 0 ≤ a2.toInt ∧ a2.toInt < (n : Int)
      · have X2 := X.mpr e2
        obtain ⟨u, hu, rfl⟩ := xr_nat e2
        refine pr_s h 1 (fun J M => J = I ∧ M = xwl L 60 (s * 40 + u) (f_X2_cutTo I L (Int32.ofNat v) a3)) ?_ ?_
        · refine xupD (c_X8_set ?_) (by decide)
          have ix : Int32.ofNat s * 40 + Int32.ofNat u = Int32.ofNat (s * 40 + u) := by
            rw [show Int32.ofNat s * 40 = Int32.ofNat (s * 40) from xv_mul s 40, xv_add]
          rw [f0, if_pos rfl, if_pos X2, if_pos X2, if_pos hxin, ix, if_pos ((xv_in (by omega)).mpr (by omega)), xv_clamp (by omega), xv_clamp (by omega), g1]
          exact ⟨rfl, I, _, rfl, xsm_refl _ _, h.2.2.2.1, ⟨t, by omega, t2⟩, rfl, rfl⟩
        · rintro J M hJ hX hM ⟨rfl, rfl⟩
          refine xupD (c_X9_set ?_) (by decide)
          have q := xis_shelf (I := J) (L := xwl L 60 (s * 40 + u) (f_X2_cutTo J L (Int32.ofNat v) a3)) (z := z) hs
          simp only [xv_clamp (show s < 2147483648 by omega)]
          rw [if_pos ((xm_in (by decide) (by decide)).mpr e1), if_pos hxin, g3, if_neg (by decide), if_pos hxin, if_neg (by decide), if_pos hxin, g5, if_pos ((xm_el b2).mpr e2), if_pos hxin, if_pos hxin]
          refine xbifT q.2.1 ?_
          rw [q.2.2, if_pos ((xv_in (by omega)).mpr (by omega)), xv_clamp (show u < 2147483648 by omega), g4]
          refine ⟨rfl, J, _, rfl, xsm_refl _ _, ?_⟩
          intro s' hs'
          refine xShM_congr (h.1.2.2.2.1 s' hs') rfl rfl rfl rfl rfl rfl rfl ?_
          intro i hi e
          rw [xwl_ne1 (o := 70 + 1 + s) (o' := 60) (by omega)]
          by_cases d : s' = s ∧ i = u
          · rw [d.1, d.2, xwl_eq, show 71 + s = 70 + 1 + s from rfl, xwl_eq]
            exact (cut_fit _ _).symm
          · rw [xwl_ne (by omega), xwl_ne (by omega), xwl_ne1 (by omega)]; exact e
      · refine pr_q h 2 0 ?_ ?_
        · refine xupD (c_X8_set ?_) (by decide)
          rw [f0, if_pos rfl, if_neg (fun q => e2 (X.mp q))]
          exact oX_no h (by decide) (by decide)
        · intro J hJ hM
          refine xupD (c_X9_set ?_) (by decide)
          have j67 : J 67 s = I 67 s := hJ _ _ (by unfold scrXr scrX; omega)
          have j69 : J 69 s = I 69 s := hJ _ _ (by unfold scrXr scrX; omega)
          simp only [xv_clamp (show s < 2147483648 by omega)]
          rw [if_pos ((m1 J).mpr e1), if_pos hxin, j67, g3, if_neg (by decide), if_pos hxin, if_neg (by decide), if_pos hxin, j69, g5, if_neg (fun q => e2 ((xm_el b2).mp q))]
          exact oM_no (xsm_refl _ _) (by decide) (by decide)
    · exact no 3 (Or.inl ⟨rfl, g2⟩)
  · refine pr_q h 2 0 ?_ ?_
    · refine xupD (c_X8_set ?_) (by decide)
      have f2 : f_X2_faultOfRow I L a1 = -2 := by
        unfold f_X2_faultOfRow
        rw [if_neg (fun q => e1 (xi_shelf.mp q))]
      rw [f2, if_neg (by decide)]
      exact oX_no h (by decide) (by decide)
    · intro J hJ hM
      refine xupD (c_X9_set ?_) (by decide)
      rw [if_neg (fun q => e1 ((m1 J).mp q))]
      exact oM_no (xsm_refl _ _) (by decide) (by decide)
