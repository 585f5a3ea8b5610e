/-! promises: calls that change the shelves -/
def scrXs : Nat → Nat → Prop := fun o k => scrX o k ∨ o = 58 ∨ o = 59
def scrMs : Nat → Nat → Prop := fun o k => scrM o k ∨ (67 ≤ o ∧ o ≤ 69) ∨ o = 80
def oXs (c : Nat) (A : xAb) (I : xI) (L : xL) (z : Bool × Bool × Nat) (v : Int32) (P : xI → xL → Prop) : xQ := fun r τ => r = some (.int v) ∧ ∃ J M, τ = xS J M z ∧ xsm scrXs I J ∧ xCache A J ∧ (∃ t, t ≤ 64 * (c + 1) ∧ xTal t J) ∧ P J M
def oMs (I : xI) (z : Bool × Bool × Nat) (v : Int32) : xQ := fun r τ => r = some (.int v) ∧ ∃ J M, τ = xS J M z ∧ xsm scrMs I J ∧ ∀ s, s < 8 → xShM J M s
theorem pr_s {cx cm : Nat} {args : List Value} {c : Nat} {A : xAb} {I : xI} {L : xL} {z : Bool × Bool × Nat} (h : xInv c A I L z) (v : Int32) (P : xI → xL → Prop) (hx : xCd 30 cx (.ref 9 :: args) (xS I L z) (oXs c A I L z v P)) (hm : ∀ J M, xsm scrXs I J → xTX J 10 A → xTM J 66 A → P J M → xCd 30 cm (.ref 66 :: args) (xS J M z) (oMs J z v)) : xCd 30 cx (.ref 9 :: args) (xS I L z) (fun r τ => xCd 30 cm (.ref 66 :: args) τ (fun r' τ' => r' = r ∧ ∃ A' I' L' z', τ' = xS I' L' z' ∧ xInv (c + 1) A' I' L' z')) := by
  obtain ⟨hb, hs, ha, hc, ht⟩ := h
  refine xuse hx (Nat.le_refl _) ?_
  rintro r τ ⟨rfl, J, M, rfl, hJ, jc, ⟨t, t1, t2⟩, jP⟩
  have jX : xTX J 10 A := xTX_sm hJ (fun k hk => by unfold scrXs scrX; omega) (fun o a b k => by unfold scrXs scrX; omega) hb.2.1
  have jM : xTM J 66 A := xTM_sm hJ (by unfold scrXs scrX; omega) (fun o a b k => by unfold scrXs scrX; omega) hb.2.2.1
  refine xuse (hm J M hJ jX jM jP) (Nat.le_refl _) ?_
  rintro r' τ' ⟨rfl, K, N, rfl, hK, kS⟩
  have g : ∀ o k, ¬ (scrXs o k ∨ scrMs o k) → K o k = I o k := fun o k q => (hK o k (fun e => q (Or.inr e))).trans (hJ o k (fun e => q (Or.inl e)))
  have g' : ∀ o k, ¬ ((o = 10 ∧ 5 ≤ k) ∨ (28 ≤ o ∧ o ≤ 55) ∨ o = 58 ∨ o = 59 ∨ (o = 61 ∧ 1 ≤ k) ∨ o = 63 ∨ o = 64 ∨ (o = 66 ∧ 23 ≤ k) ∨ (67 ≤ o ∧ o ≤ 69) ∨ o = 79 ∨ o = 80 ∨ (103 ≤ o ∧ o ≤ 111) ∨ 158 ≤ o) → K o k = I o k := fun o k q => g o k (fun e => q (by unfold scrXs scrMs scrX scrM at e; omega))
  have hIK : xsm (fun o k => scrXs o k ∨ scrMs o k) I K := g
  obtain ⟨h0, h1, h2, h3, h4, h5, h6, h7⟩ := hb
  refine ⟨rfl, A, K, N, z, rfl, ⟨h0, ?_, ?_, kS, ?_, ?_, ?_, ?_⟩, ?_, ?_, ?_, t, t1, ?_⟩
  · exact xTX_sm hK (fun k hk => by unfold scrMs scrM; omega) (fun o a b k => by unfold scrMs scrM; omega) jX
  · exact xTM_sm hK (by unfold scrMs scrM; omega) (fun o a b k => by unfold scrMs scrM; omega) jM
  · intro i hi; rw [g' 65 i (by omega), g' 82 _ (by omega)]; exact h4 i hi
  · obtain ⟨n, a, b, d, e⟩ := h5
    refine ⟨n, a, ?_, ?_, ?_⟩
    · rw [g' 61 0 (by omega)]; exact b
    · rw [g' 66 7 (by omega)]; exact d
    · intro i hi; rw [g' 62 i (by omega), g' 81 i (by omega)]; exact e i hi
  · rw [g' 9 11 (by omega)]; exact h6
  · intro hz
    obtain ⟨C, a, b, d⟩ := h7 hz
    exact ⟨C, a, xTX_sm hIK (fun k hk => by unfold scrXs scrMs scrX scrM; omega) (fun o a b k => by unfold scrXs scrMs scrX scrM; omega) b, xTM_sm hIK (by unfold scrXs scrMs scrX scrM; omega) (fun o a b k => by unfold scrXs scrMs scrX scrM; omega) d⟩
  · exact xShf_sm hIK (fun k => by unfold scrXs scrMs scrX scrM; omega) hs
  · exact xAbv_sm hIK (fun k => by unfold scrXs scrMs scrX scrM; omega) ha
  · exact xCache_sm hK (fun o k e => by unfold scrMs scrM at e; unfold noC; omega) jc
  · exact xTal_sm hK (fun o k e => by unfold scrMs scrM at e; omega) t2
/-- what is read of a shelf -/
theorem xShM_congr {I J : xI} {L M : xL} {s : Nat} (h : xShM I L s) (h58 : J 58 s = I 58 s) (h59 : J 59 s = I 59 s) (h67 : J 67 s = I 67 s) (h68 : J 68 s = I 68 s) (h69 : J 69 s = I 69 s) (h80 : J 80 s = I 80 s) (h4 : J 10 4 = I 10 4) (hL : ∀ i, i < 40 → L 60 (s * 40 + i) = L (71 + s) i → M 60 (s * 40 + i) = M (71 + s) i) : xShM J M s := by
  unfold xShM at h ⊢
  rw [h58, h59, h67, h68, h69, h80, h4]
  rcases h with h | ⟨v, n, e1, e2, e3, e4, e5, e6, e7, e8⟩ | h
  · exact Or.inl h
  · exact Or.inr (Or.inl ⟨v, n, e1, e2, e3, e4, e5, e6, e7, fun i hi => hL i (by omega) (e8 i hi)⟩)
  · exact Or.inr (Or.inr h)
theorem pr_show (a1 a2 : Int32) : xPq 138 200 [.int a1, .int a2] := by
  intro c A I L z hc h
  have hA := h.1.1
  have t4 := hA.2.2.2.2.2.2.2.2.2.1
  have n4 : I 10 4 = Int32.ofNat (ab_tell A).length := h.1.2.1.1.2.2.2.2
  have m1 : ∀ J : xI, p_X9_in J L (Int32.toInt64 a1) (Int64.ofNat 0) (Int64.ofNat 7) ↔ (0 ≤ a1.toInt ∧ a1.toInt < (8 : Nat)) := fun J => xm_in (by decide) (by decide)
  obtain ⟨t, t1, t2⟩ := h.2.2.2.2
  by_cases e1 : 0 ≤ a1.toInt ∧ a1.toInt < (8 : Nat)
  · have x1 := (xi_shelf (I := I) (L := L)).mpr e1
    obtain ⟨s, hs, rfl⟩ := xr_nat e1
    have hxin : xin (Int32.ofNat s) 8 := (xv_in (by omega)).mpr hs
    -- how it ends, for nothing and for a teller
    have fin : ∀ (x k : Int32), (x = -1 ∧ k = 0) ∨ (∃ u, u < 4 ∧ Int32.ofNat u < I 10 4 ∧ x = Int32.ofNat (10 + u) ∧ k = 2 ∧ a2 = Int32.ofNat u) → ∀ (J : xI) (M : xL), J = xw I 58 s x → M = L → oMs J z 1 (some (.int 1)) (xS (xw (xw J 67 s k) 80 s a2) M z) := by
      intro x k hx J M hJ hM
      subst hJ; subst hM
      refine ⟨rfl, _, _, rfl, xsm_xw (by unfold scrMs; omega) (xsm_xw (by unfold scrMs; omega) (xsm_refl _ _)), ?_⟩
      intro s' hs'
      by_cases d : s' = s
      · subst d
        unfold xShM
        rw [xw_ne1 (o' := 58) (by decide), xw_ne1 (o' := 58) (by decide), xw_eq, xw_ne1 (o' := 67) (by decide), xw_eq, xw_eq, xw_ne1 (o' := 10) (by decide), xw_ne1 (o' := 10) (by decide), xw_ne1 (o' := 10) (by decide)]
        rcases hx with ⟨hx, hk⟩ | ⟨u, u1, u2, hx, hk, h2⟩
        · exact Or.inl ⟨hx, hk⟩
        · exact Or.inr (Or.inr ⟨u, u1, u2, hx, hk, h2⟩)
      · refine xShM_congr (h.1.2.2.2.1 s' hs') ?_ ?_ ?_ ?_ ?_ ?_ ?_ (fun i _ e => e)
        · rw [xw_ne1 (by decide), xw_ne1 (by decide), xw_ne2 d]
        · rw [xw_ne1 (by decide), xw_ne1 (by decide), xw_ne1 (by decide)]
        · rw [xw_ne1 (by decide), xw_ne2 d, xw_ne1 (by decide)]
        · rw [xw_ne1 (by decide), xw_ne1 (by decide), xw_ne1 (by decide)]
        · rw [xw_ne1 (by decide), xw_ne1 (by decide), xw_ne1 (by decide)]
        · rw [xw_ne2 d, xw_ne1 (by decide), xw_ne1 (by decide)]
        · rw [xw_ne1 (by decide), xw_ne1 (by decide), xw_ne1 (by decide)]
    have xend : ∀ x : Int32, oXs c A I L z 1 (fun J M => J = xw I 58 s x ∧ M = L) (some (.int 1)) (xS (xw I 58 s x) L z) := by
      intro x
      refine ⟨rfl, _, _, rfl, xsm_xw (by unfold scrXs; omega) (xsm_refl _ _), ?_, ⟨t, by omega, ?_⟩, rfl, rfl⟩
      · exact xCache_sm (S := xAt 58) (xsm_xw rfl (xsm_refl _ _)) (fun o k e => by unfold xAt at e; unfold noC; omega) h.2.2.2.1
      · exact xTal_sm (S := xAt 58) (xsm_xw rfl (xsm_refl _ _)) (fun o k e => by unfold xAt at e; omega) t2
    by_cases e2 : a2 = -1
    · refine pr_s h 1 (fun J M => J = xw I 58 s (-1) ∧ M = L) ?_ ?_
      · refine xupD (c_X8_show ?_) (by decide)
        rw [if_pos x1, if_pos e2, if_pos x1, if_pos e2, if_pos hxin, xv_clamp (by omega)]
        exact xend _
      · rintro J M hJ hX hM ⟨j1, j2⟩
        refine xupD (c_X9_show ?_) (by decide)
        subst j2
        rw [if_pos ((m1 J).mpr e1), if_pos e2, if_pos e2, if_pos hxin, if_pos hxin, xv_clamp (by omega)]
        exact fin (-1) 0 (Or.inl ⟨rfl, rfl⟩) J _ j1 rfl
    · by_cases e3 : 0 ≤ a2.toInt ∧ a2.toInt < ((ab_tell A).length : Int)
      · have x2 := (xi_teller (I := I) (L := L) hA n4).mpr e3
        obtain ⟨u, hu, rfl⟩ := xr_nat e3
        refine pr_s h 1 (fun J M => J = xw I 58 s (10 + Int32.ofNat u) ∧ M = L) ?_ ?_
        · refine xupD (c_X8_show ?_) (by decide)
          rw [if_pos x1, if_neg e2, if_pos x2, if_pos x1, if_neg e2, if_pos hxin, xv_clamp (by omega)]
          exact xend _
        · rintro J M hJ hX hM ⟨j1, j2⟩
          refine xupD (c_X9_show ?_) (by decide)
          subst j2
          rw [if_pos ((m1 J).mpr e1), if_neg e2, if_pos ((xm_teller hA hM.1.2.2.2).mpr e3), if_neg e2, if_pos hxin, if_pos hxin, xv_clamp (show s < 2147483648 by omega)]
          exact fin (10 + Int32.ofNat u) 2 (Or.inr ⟨u, by omega, by rw [n4]; exact (xv_lt (by omega) (by omega)).mpr hu, xv_add 10 u, rfl, rfl⟩) J _ j1 rfl
      · refine pr_q h 2 0 ?_ ?_
        · refine xupD (c_X8_show ?_) (by decide)
          rw [if_pos x1, if_neg e2, if_neg (fun q => e3 ((xi_teller hA n4).mp q))]
          exact oX_no h (by decide) (by decide)
        · intro J hJ hM
          refine xupD (c_X9_show ?_) (by decide)
          rw [if_pos ((m1 J).mpr e1), if_neg e2, if_neg (fun q => e3 ((xm_teller hA hM.1.2.2.2).mp q))]
          exact oM_no (xsm_refl _ _) (by decide) (by decide)
  · refine pr_q h 2 0 ?_ ?_
    · refine xupD (c_X8_show ?_) (by decide)
      rw [if_neg (fun q => e1 (xi_shelf.mp q))]
      exact oX_no h (by decide) (by decide)
    · intro J hJ hM
      refine xupD (c_X9_show ?_) (by decide)
      rw [if_neg (fun q => e1 ((m1 J).mp q))]
      exact oM_no (xsm_refl _ _) (by decide) (by decide)
