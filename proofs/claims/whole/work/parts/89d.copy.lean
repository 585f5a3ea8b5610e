theorem no7 {p1 p2 p3 p4 p5 p6 p7 X Y : Prop} [Decidable p1] [Decidable p2] [Decidable p3] [Decidable p4] [Decidable p5] [Decidable p6] [Decidable p7] (h : ¬ (¬ p1 ∧ ¬ p2 ∧ ¬ p3 ∧ ¬ p4 ∧ ¬ p5 ∧ ¬ p6 ∧ ¬ p7)) (y : Y) : if p1 then Y else (if p2 then Y else (if p3 then Y else (if p4 then Y else (if p5 then Y else (if p6 then Y else (if p7 then Y else X)))))) := by
  by_cases a1 : p1
  · rw [if_pos a1]; exact y
  rw [if_neg a1]
  by_cases a2 : p2
  · rw [if_pos a2]; exact y
  rw [if_neg a2]
  by_cases a3 : p3
  · rw [if_pos a3]; exact y
  rw [if_neg a3]
  by_cases a4 : p4
  · rw [if_pos a4]; exact y
  rw [if_neg a4]
  by_cases a5 : p5
  · rw [if_pos a5]; exact y
  rw [if_neg a5]
  by_cases a6 : p6
  · rw [if_pos a6]; exact y
  rw [if_neg a6]
  by_cases a7 : p7
  · rw [if_pos a7]; exact y
  exact absurd ⟨a1, a2, a3, a4, a5, a6, a7⟩ h
theorem l02 : ((0 : Int32) = 2) = False := eq_false (by decide)
theorem l01 : ((0 : Int32) = 1) = False := eq_false (by decide)
theorem l12 : ((1 : Int32) = 2) = False := eq_false (by decide)
theorem l10 : ((1 : Int32) = 0) = False := eq_false (by decide)
theorem l20 : ((2 : Int32) = 0) = False := eq_false (by decide)
theorem l21 : ((2 : Int32) = 1) = False := eq_false (by decide)
theorem lm0 : ((-1 : Int32) < 10) = True := eq_true (by decide)
theorem lr10 {v : Nat} (h : v < 5) : (Int32.ofNat v < (10 : Int32)) = True := eq_true ((xv_lt (b := 10) (by omega) (by decide)).mpr (by omega))
theorem lt10 {t : Nat} (h : t < 4) : (Int32.ofNat (10 + t) < (10 : Int32)) = False := eq_false (fun q => by have := (xv_lt (b := 10) (by omega) (by decide)).mp q; omega)
theorem lrm {v : Nat} (h : v < 100) : (Int32.ofNat v = (-1 : Int32)) = False := by rw [show (-1 : Int32) = -(Int32.ofNat 1) from rfl, xv_m1 (by omega) (by decide) (by decide)]
/-- how it ends on the reference's side when it is refused -/
theorem u_refM {F : xQ} {J : xI} {L : xL} {z : Bool × Bool × Nat} {k d : Nat} (hd : 1 ≤ d) (hk : k ≤ 6) (h : F (some (.int (-(Int32.ofNat k)))) (xS (xw J 82 k (J 82 k + 1)) L z)) : xCd d 187 [.ref 66, .int (-(Int32.ofNat k))] (xS J L z) F := by
  refine xupD (c_X9_refuse ?_) hd
  have e0 : -(-(Int32.ofNat k)) = Int32.ofNat k := Int32.neg_neg
  simp only [e0, xv_clamp (show k < 2147483648 by omega)]
  rw [if_pos ((xv_in (by omega)).mpr (by omega)), if_pos ((xv_in (by omega)).mpr (by omega))]
  exact h
theorem pr_copy (a1 a2 a3 a4 a5 : Int32) : xPq 135 197 [.int a1, .int a2, .int a3, .int a4, .int a5] := by
  intro c A I L z hc h
  have m1 : ∀ (a : Int32) (J : xI), p_X9_in J L (Int32.toInt64 a) (Int64.ofNat 0) (Int64.ofNat 7) ↔ (0 ≤ a.toInt ∧ a.toInt < (8 : Nat)) := fun a J => xm_in (by decide) (by decide)
  obtain ⟨t, t1, t2⟩ := h.2.2.2.2
  by_cases e : (0 ≤ a1.toInt ∧ a1.toInt < (8 : Nat)) ∧ (0 ≤ a2.toInt ∧ a2.toInt < (8 : Nat))
  · obtain ⟨e1, e2⟩ := e
    have x1 := eq_true ((xi_shelf (I := I) (L := L)).mpr e1)
    have x2 := eq_true ((xi_shelf (I := I) (L := L)).mpr e2)
    have y1 := fun J : xI => eq_true ((m1 a1 J).mpr e1)
    have y2 := fun J : xI => eq_true ((m1 a2 J).mpr e2)
    obtain ⟨s1, hs1, rfl⟩ := xr_nat e1
    obtain ⟨s2, hs2, rfl⟩ := xr_nat e2
    have w1 : xin (Int32.ofNat s1) 8 = True := eq_true ((xv_in (by omega)).mpr hs1)
    have w2 : xin (Int32.ofNat s2) 8 = True := eq_true ((xv_in (by omega)).mpr hs2)
    have c1 := xv_clamp (show s1 < 2147483648 by omega)
    have c2 := xv_clamp (show s2 < 2147483648 by omega)
    have f1 := h.1.2.2.2.1 s1 hs1
    have f2 := h.1.2.2.2.1 s2 hs2
    have no := fun (k : Nat) (hx : xCd 30 135 [.ref 9, .int (Int32.ofNat s1), .int (Int32.ofNat s2), .int a3, .int a4, .int a5] (xS I L z) (oX c A I L z k 0)) (hm : ∀ J : xI, J 67 s1 = I 67 s1 → J 67 s2 = I 67 s2 → J 68 s1 = I 68 s1 → J 68 s2 = I 68 s2 → J 69 s1 = I 69 s1 → J 69 s2 = I 69 s2 → xCd 30 197 [.ref 66, .int (Int32.ofNat s1), .int (Int32.ofNat s2), .int a3, .int a4, .int a5] (xS J L z) (oM J L z k 0)) => pr_q h k 0 hx (fun J hJ _ => hm J (hJ _ _ (by unfold scrXr scrX; omega)) (hJ _ _ (by unfold scrXr scrX; omega)) (hJ _ _ (by unfold scrXr scrX; omega)) (hJ _ _ (by unfold scrXr scrX; omega)) (hJ _ _ (by unfold scrXr scrX; omega)) (hJ _ _ (by unfold scrXr scrX; omega)))
    have n3 : oX c A I L z 3 0 (some (.int (-3))) (xS (xrfu I (-3)) L z) := oX_no h (by decide) (by decide)
    have n4 : oX c A I L z 4 0 (some (.int (-4))) (xS (xrfu I (-4)) L z) := oX_no h (by decide) (by decide)
    have n2 : oX c A I L z 2 0 (some (.int (-2))) (xS (xrfu I (-2)) L z) := oX_no h (by decide) (by decide)
    have r3 : ∀ J : xI, oM J L z 3 0 (some (.int (-3))) (xS (xw J 82 3 (J 82 3 + 1)) L z) := fun J => oM_no (xsm_refl _ _) (by decide) (by decide)
    have r4 : ∀ J : xI, oM J L z 4 0 (some (.int (-4))) (xS (xw J 82 4 (J 82 4 + 1)) L z) := fun J => oM_no (xsm_refl _ _) (by decide) (by decide)
    have r2 : ∀ J : xI, oM J L z 2 0 (some (.int (-2))) (xS (xw J 82 2 (J 82 2 + 1)) L z) := fun J => oM_no (xsm_refl _ _) (by decide) (by decide)
    have q3 : ∀ J : xI, xCd 29 187 [.ref 66, .int (-3)] (xS J L z) (fun r τ => xEX k_X9_copy 1 (xCd 29) (oM J L z 3 0) 92 [some (.ref 66), some (.int (Int32.ofNat s1)), some (.int (Int32.ofNat s2)), some (.int a3), some (.int a4), some (.int a5), none] (r.toList ++ []) τ (0, 0)) := fun J => u_refM (k := 3) (by decide) (by decide) (g_X9_copy_92 (by decide) (r3 J))
    have q4 : ∀ J : xI, xCd 29 187 [.ref 66, .int (-4)] (xS J L z) (fun r τ => xEX k_X9_copy 1 (xCd 29) (oM J L z 4 0) 117 [some (.ref 66), some (.int (Int32.ofNat s1)), some (.int (Int32.ofNat s2)), some (.int a3), some (.int a4), some (.int a5), none] (r.toList ++ []) τ (0, 0)) := fun J => u_refM (k := 4) (by decide) (by decide) (g_X9_copy_117 (by decide) (r4 J))
    have q2 : ∀ J : xI, xCd 29 187 [.ref 66, .int (-2)] (xS J L z) (fun r τ => xEX k_X9_copy 1 (xCd 29) (oM J L z 2 0) 187 [some (.ref 66), some (.int (Int32.ofNat s1)), some (.int (Int32.ofNat s2)), some (.int a3), some (.int a4), some (.int a5), none] (r.toList ++ []) τ (0, 0)) := fun J => u_refM (k := 2) (by decide) (by decide) (g_X9_copy_187 (by decide) (r2 J))
    rcases sh_kind f1 with ⟨g1, g2⟩ | ⟨v, n, b1, b2, g1, g2, g3, g4, g5⟩ | ⟨u, b1, g1, g2⟩
    · rcases sh_kind f2 with ⟨i1, i2⟩ | ⟨v', n', d1, d2, i1, i2, i3, i4, i5⟩ | ⟨u', d1, i1, i2⟩
      · refine no 4 (c_X8_copy (d := 29) (g_X8_copy_0 (by decide) (xupD (c_X2_faultOfPair ?_) (by decide)))) (fun J j1 j2 j3 j4 j5 j6 => c_X9_copy (d := 29) (g_X9_copy_0 (by decide) ?_))
        · simp only [x1, x2, w1, w2, c1, c2, g1, i1, lm0, if_true]
          exact g_X8_copy_9 (by decide) (by rw [if_neg (by decide)]; exact n4)
        · simp only [y1, y2, w1, w2, c1, c2, j1, j2, g2, i2, l02, l01, if_true, if_false]
          exact q4 J
      · refine no 4 (c_X8_copy (d := 29) (g_X8_copy_0 (by decide) (xupD (c_X2_faultOfPair ?_) (by decide)))) (fun J j1 j2 j3 j4 j5 j6 => c_X9_copy (d := 29) (g_X9_copy_0 (by decide) ?_))
        · simp only [x1, x2, w1, w2, c1, c2, g1, i1, lm0, lr10 d1, if_true]
          exact g_X8_copy_9 (by decide) (by rw [if_neg (by decide)]; exact n4)
        · simp only [y1, y2, w1, w2, c1, c2, j1, j2, g2, i3, l02, l01, l12, if_true, if_false]
          exact q4 J
      · refine no 3 (c_X8_copy (d := 29) (g_X8_copy_0 (by decide) (xupD (c_X2_faultOfPair ?_) (by decide)))) (fun J j1 j2 j3 j4 j5 j6 => c_X9_copy (d := 29) (g_X9_copy_0 (by decide) ?_))
        · simp only [x1, x2, w1, w2, c1, c2, g1, i1, lm0, lt10 d1, if_true, if_false]
          exact g_X8_copy_9 (by decide) (by rw [if_neg (by decide)]; exact n3)
        · simp only [y1, y2, w1, w2, c1, c2, j1, j2, g2, i2, l02, if_true, if_false]
          exact q3 J
    · rcases sh_kind f2 with ⟨i1, i2⟩ | ⟨v', n', d1, d2, i1, i2, i3, i4, i5⟩ | ⟨u', d1, i1, i2⟩
      · refine no 4 (c_X8_copy (d := 29) (g_X8_copy_0 (by decide) (xupD (c_X2_faultOfPair ?_) (by decide)))) (fun J j1 j2 j3 j4 j5 j6 => c_X9_copy (d := 29) (g_X9_copy_0 (by decide) ?_))
        · simp only [x1, x2, w1, w2, c1, c2, g1, i1, lm0, lr10 b1, lrm (show v < 100 by omega), if_true, if_false]
          exact g_X8_copy_9 (by decide) (by rw [if_neg (by decide)]; exact n4)
        · simp only [y1, y2, w1, w2, c1, c2, j1, j2, g3, i2, l02, l01, l12, l10, if_true, if_false]
          exact q4 J
      · -- two rows
        have R1 := xp_row (L := L) hs1 b1 g1
        have R2 := xp_row (L := L) hs2 d1 i1
        by_cases sv : v = v'
        · subst sv
          have cx : ∀ F : xQ, h_X8_copy_9 29 F (0, 0) I L z (Int32.ofNat s1) (Int32.ofNat s2) a3 a4 a5 0 → xCd 30 135 [.ref 9, .int (Int32.ofNat s1), .int (Int32.ofNat s2), .int a3, .int a4, .int a5] (xS I L z) F := by
            intro F K
            refine c_X8_copy (d := 29) (g_X8_copy_0 (by decide) (xupD (c_X2_faultOfPair ?_) (by decide)))
            simp only [x1, x2, w1, w2, c1, c2, g1, i1, lr10 b1, lrm (show v < 100 by omega), if_true, if_false]
            exact K
          have E1 : p_X2_hasElements I L (Int32.ofNat s1) a3 a5 ↔ (¬ a3 < 0 ∧ ¬ a5 < 0 ∧ ¬ Int32.ofNat n < a5 ∧ ¬ (Int32.ofNat n - a5) < a3) := by
            show (p_X2_hasRow I L (Int32.ofNat s1) ∧ (¬ a3 < 0 ∧ (¬ a5 < 0 ∧ (xin (Int32.ofNat s1) 8 ∧ (¬ (I 59 (Int32.toNatClampNeg (Int32.ofNat s1))) < a5 ∧ (xin (Int32.ofNat s1) 8 ∧ ¬ ((I 59 (Int32.toNatClampNeg (Int32.ofNat s1))) - a5) < a3)))))) ↔ _
            rw [c1, g2, w1]
            exact ⟨fun q => ⟨q.2.1, q.2.2.1, q.2.2.2.2.1, q.2.2.2.2.2.2⟩, fun q => ⟨R1, q.1, q.2.1, trivial, q.2.2.1, trivial, q.2.2.2⟩⟩
          have E2 : p_X2_hasElements I L (Int32.ofNat s2) a4 a5 ↔ (¬ a4 < 0 ∧ ¬ a5 < 0 ∧ ¬ Int32.ofNat n' < a5 ∧ ¬ (Int32.ofNat n' - a5) < a4) := by
            show (p_X2_hasRow I L (Int32.ofNat s2) ∧ (¬ a4 < 0 ∧ (¬ a5 < 0 ∧ (xin (Int32.ofNat s2) 8 ∧ (¬ (I 59 (Int32.toNatClampNeg (Int32.ofNat s2))) < a5 ∧ (xin (Int32.ofNat s2) 8 ∧ ¬ ((I 59 (Int32.toNatClampNeg (Int32.ofNat s2))) - a5) < a4)))))) ↔ _
            rw [c2, i2, w2]
            exact ⟨fun q => ⟨q.2.1, q.2.2.1, q.2.2.2.2.1, q.2.2.2.2.2.2⟩, fun q => ⟨R2, q.1, q.2.1, trivial, q.2.2.1, trivial, q.2.2.2⟩⟩
          by_cases rg : ¬ a5 < 0 ∧ ¬ a3 < 0 ∧ ¬ a4 < 0 ∧ ¬ Int32.ofNat n < a5 ∧ ¬ Int32.ofNat n' < a5 ∧ ¬ (Int32.ofNat n - a5) < a3 ∧ ¬ (Int32.ofNat n' - a5) < a4
          · obtain ⟨r1, r3, r4, ra, rb, rc, rd⟩ := rg
            obtain ⟨m, hm, rfl⟩ := xv_of r1
            obtain ⟨f, hf, rfl⟩ := xv_of r3
            obtain ⟨g, hg, rfl⟩ := xv_of r4
            have mn : m ≤ n := Nat.le_of_not_lt fun q => ra ((xv_lt (by omega) (by omega)).mpr q)
            have mn' : m ≤ n' := Nat.le_of_not_lt fun q => rb ((xv_lt (by omega) (by omega)).mpr q)
            have s1' := xv_sub mn
            have s2' := xv_sub mn'
            have fn : f + m ≤ n := by
              have : ¬ n - m < f := fun q => rc (by rw [s1']; exact (xv_lt (by omega) (by omega)).mpr q)
              omega
            have gn : g + m ≤ n' := by
              have : ¬ n' - m < g := fun q => rd (by rw [s2']; exact (xv_lt (by omega) (by omega)).mpr q)
              omega
            have rowE : ∀ i, i < n → L 60 (s1 * 40 + i) = L (71 + s1) i := by
              rcases f1 with ⟨q, _⟩ | ⟨v0, n0, e1, e2, e3, e4, e5, e6, e7, e8⟩ | ⟨u, e1, e2, e3, e4, e5⟩
              · rw [g1] at q
                have := lrm (show v < 100 by omega)
                rw [this] at q; exact q.elim
              · rw [g2] at e4
                have := (xv_eq (by omega) (by omega)).mp e4
                subst this
                exact e8
              · rw [g1] at e3
                have := (xv_eq (by omega) (by omega)).mp e3
                omega
            have ix1 : Int32.ofNat s1 * 40 + Int32.ofNat f = Int32.ofNat (s1 * 40 + f) := by
              rw [show Int32.ofNat s1 * 40 = Int32.ofNat (s1 * 40) from xv_mul s1 40, xv_add]
            have ix2 : Int32.ofNat s2 * 40 + Int32.ofNat g = Int32.ofNat (s2 * 40 + g) := by
              rw [show Int32.ofNat s2 * 40 = Int32.ofNat (s2 * 40) from xv_mul s2 40, xv_add]
            refine pr_s h (Int32.ofNat m) (fun J M => J = I ∧ M = xcpl L 60 (s1 * 40 + f) 60 (s2 * 40 + g) m) (cx _ (g_X8_copy_9 (by decide) ?_)) ?_
            · rw [if_pos rfl, if_pos (E1.mpr ⟨r3, r1, ra, rc⟩), if_pos (E2.mpr ⟨r4, r1, rb, rd⟩), ix1, ix2, if_pos (show xcpOK (Int32.ofNat m) (Int32.ofNat (s2 * 40 + g)) (Int32.ofNat (s1 * 40 + f)) 320 320 from ⟨r1, xv_neg (by omega), xv_neg (by omega), by rw [xv_clamp (by omega), xv_clamp (by omega)]; omega, by rw [xv_clamp (by omega), xv_clamp (by omega)]; omega⟩), xv_clamp (by omega), xv_clamp (by omega), xv_clamp (by omega)]
              exact ⟨rfl, I, _, rfl, xsm_refl _ _, h.2.2.2.1, ⟨t, by omega, t2⟩, rfl, rfl⟩
            · rintro J M hJ hX hM ⟨rfl, rfl⟩
              have z1 : ∀ M : xL, p_X9_in J M (Int32.toInt64 (Int32.ofNat s1)) (Int64.ofNat 0) (Int64.ofNat 7) = True := fun M => eq_true ((xm_in (by decide) (by decide)).mpr e1)
              have z2 : ∀ M : xL, p_X9_in J M (Int32.toInt64 (Int32.ofNat s2)) (Int64.ofNat 0) (Int64.ofNat 7) = True := fun M => eq_true ((xm_in (by decide) (by decide)).mpr e2)
              refine c_X9_copy (d := 29) (g_X9_copy_0 (by decide) ?_)
              simp only [z1, z2, w1, w2, c1, c2, g3, i3, g4, i4, g5, i5, l12, l10, if_true, if_false]
              rw [if_neg r1, if_neg r3, if_neg r4, if_neg ra, if_neg rb, if_neg rc, if_neg rd]
              have k2 : ∀ N0 : xL, (∀ k, k < m → N0 79 k = L (71 + s1) (f + k)) → (∀ o k, o ≠ 79 → N0 o k = xcpl L 60 (s1 * 40 + f) 60 (s2 * 40 + g) m o k) → h_X9_copy_225 29 (oMs J z (Int32.ofNat m)) (0, 0) J N0 z (Int32.ofNat s1) (Int32.ofNat s2) (Int32.ofNat f) (Int32.ofNat g) (Int32.ofNat m) (Int32.ofNat 0) := by
                intro N0 p1 p2
                have key : ∀ i, i ≤ m → ∀ N : xL, (∀ k, k < i → N (71 + s2) (g + k) = L (71 + s1) (f + k)) → (∀ o k, ¬ (o = 71 + s2 ∧ g ≤ k ∧ k < g + i) → N o k = N0 o k) → h_X9_copy_225 29 (oMs J z (Int32.ofNat m)) (0, 0) J N z (Int32.ofNat s1) (Int32.ofNat s2) (Int32.ofNat f) (Int32.ofNat g) (Int32.ofNat m) (Int32.ofNat i) := by
                  refine xcount (fun i => ∀ N : xL, (∀ k, k < i → N (71 + s2) (g + k) = L (71 + s1) (f + k)) → (∀ o k, ¬ (o = 71 + s2 ∧ g ≤ k ∧ k < g + i) → N o k = N0 o k) → h_X9_copy_225 29 (oMs J z (Int32.ofNat m)) (0, 0) J N z (Int32.ofNat s1) (Int32.ofNat s2) (Int32.ofNat f) (Int32.ofNat g) (Int32.ofNat m) (Int32.ofNat i)) m ?_ ?_
                  · intro i hi KK N v1 v2
                    refine g_X9_copy_225 (by decide) ?_
                    have q := xis_shelf (I := J) (L := N) (z := z) hs2
                    rw [if_pos ((xv_lt (by omega) (by omega)).mpr hi), if_pos ((xv_in (by omega)).mpr hs2), if_pos ((xv_in (by omega)).mpr (by omega)), c2]
                    refine xbifT q.2.1 ?_
                    rw [q.2.2, xv_add, if_pos ((xv_in (by omega)).mpr (by omega)), xv_clamp (by omega), xv_clamp (by omega), show Int32.ofNat i + 1 = Int32.ofNat (i + 1) from xv_add i 1]
                    refine KK _ ?_ ?_
                    · intro k hk
                      by_cases d : k = i
                      · rw [d, show 70 + 1 + s2 = 71 + s2 from rfl, xwl_eq, v2 79 _ (by omega)]; exact p1 i hi
                      · rw [xwl_ne (by omega)]; exact v1 k (by omega)
                    · intro o k hk
                      rw [xwl_ne (by omega)]; exact v2 o k (by omega)
                  · intro N v1 v2
                    refine g_X9_copy_225 (by decide) ?_
                    rw [if_neg (fun q => absurd ((xv_lt (by omega) (by omega)).mp q) (Nat.lt_irrefl _))]
                    refine ⟨rfl, J, N, rfl, xsm_refl _ _, ?_⟩
                    intro s' hs'
                    refine xShM_congr (h.1.2.2.2.1 s' hs') rfl rfl rfl rfl rfl rfl rfl ?_
                    intro i hi e
                    have eN : ∀ o k, o ≠ 79 → ¬ (o = 71 + s2 ∧ g ≤ k ∧ k < g + m) → N o k = xcpl L 60 (s1 * 40 + f) 60 (s2 * 40 + g) m o k := fun o k a b => (v2 o k b).trans (p2 o k a)
                    rw [eN 60 _ (by decide) (by omega)]
                    unfold xcpl at eN ⊢
                    by_cases d : s' = s2 ∧ g ≤ i ∧ i < g + m
                    · obtain ⟨d1, d2, d3⟩ := d
                      subst d1
                      have vi := v1 (i - g) (by omega)
                      rw [show g + (i - g) = i from by omega] at vi
                      rw [if_pos ⟨rfl, by omega, by omega⟩, vi, ← rowE _ (by omega)]
                      congr 1
                      omega
                    · rw [if_neg (by omega), eN (71 + s') i (by omega) (by omega), if_neg (by omega)]; exact e
                exact key 0 (Nat.zero_le _) N0 (fun k hk => absurd hk (Nat.not_lt_zero _)) (fun o k _ => rfl)
              have key : ∀ i, i ≤ m → ∀ N : xL, (∀ k, k < i → N 79 k = L (71 + s1) (f + k)) → (∀ o k, o ≠ 79 → N o k = xcpl L 60 (s1 * 40 + f) 60 (s2 * 40 + g) m o k) → h_X9_copy_191 29 (oMs J z (Int32.ofNat m)) (0, 0) J N z (Int32.ofNat s1) (Int32.ofNat s2) (Int32.ofNat f) (Int32.ofNat g) (Int32.ofNat m) (Int32.ofNat i) := by
                refine xcount (fun i => ∀ N : xL, (∀ k, k < i → N 79 k = L (71 + s1) (f + k)) → (∀ o k, o ≠ 79 → N o k = xcpl L 60 (s1 * 40 + f) 60 (s2 * 40 + g) m o k) → h_X9_copy_191 29 (oMs J z (Int32.ofNat m)) (0, 0) J N z (Int32.ofNat s1) (Int32.ofNat s2) (Int32.ofNat f) (Int32.ofNat g) (Int32.ofNat m) (Int32.ofNat i)) m ?_ ?_
                · intro i hi KK N v1 v2
                  refine g_X9_copy_191 (by decide) ?_
                  have q := xis_shelf (I := J) (L := N) (z := z) hs1
                  rw [if_pos ((xv_lt (by omega) (by omega)).mpr hi), if_pos ((xv_in (by omega)).mpr hs1), c1]
                  refine xbifT q.1 ?_
                  rw [q.2.2, xv_add, if_pos ((xv_in (by omega)).mpr (by omega)), if_pos ((xv_in (by omega)).mpr (by omega)), xv_clamp (by omega), xv_clamp (by omega), show Int32.ofNat i + 1 = Int32.ofNat (i + 1) from xv_add i 1]
                  refine KK _ ?_ ?_
                  · intro k hk
                    by_cases d : k = i
                    · rw [d, xwl_eq, v2 _ _ (by omega)]
                      unfold xcpl
                      rw [if_neg (by omega)]
                    · rw [xwl_ne (by omega)]; exact v1 k (by omega)
                  · intro o k hk
                    rw [xwl_ne1 hk]; exact v2 o k hk
                · intro N v1 v2
                  refine g_X9_copy_191 (by decide) ?_
                  rw [if_neg (fun q => absurd ((xv_lt (by omega) (by omega)).mp q) (Nat.lt_irrefl _))]
                  exact k2 N v1 v2
              exact key 0 (Nat.zero_le _) _ (fun k hk => absurd hk (Nat.not_lt_zero _)) (fun o k _ => rfl)
          · refine no 2 (cx _ (g_X8_copy_9 (by decide) ?_)) (fun J j1 j2 j3 j4 j5 j6 => c_X9_copy (d := 29) (g_X9_copy_0 (by decide) ?_))
            · rw [if_pos rfl]
              exact no2 (fun q => rg ⟨q.1.2.1, q.1.1, q.2.1, q.1.2.2.1, q.2.2.2.1, q.1.2.2.2, q.2.2.2.2⟩) E1 E2 n2
            · simp only [y1, y2, w1, w2, c1, c2, j1, j2, j3, j4, j5, j6, g3, i3, g4, i4, g5, i5, l12, l10, if_true, if_false]
              exact no7 rg (q2 J)
        · have sv' : (Int32.ofNat v = Int32.ofNat v') = False := eq_false (fun q => sv ((xv_eq (by omega) (by omega)).mp q))
          refine no 3 (c_X8_copy (d := 29) (g_X8_copy_0 (by decide) (xupD (c_X2_faultOfPair ?_) (by decide)))) (fun J j1 j2 j3 j4 j5 j6 => c_X9_copy (d := 29) (g_X9_copy_0 (by decide) ?_))
          · simp only [x1, x2, w1, w2, c1, c2, g1, i1, lr10 b1, lr10 d1, lrm (show v < 100 by omega), lrm (show v' < 100 by omega), sv', if_true, if_false]
            exact g_X8_copy_9 (by decide) (by rw [if_neg (by decide)]; exact n3)
          · simp only [y1, y2, w1, w2, c1, c2, j1, j2, j3, j4, g3, i3, g4, i4, sv', l12, if_true, if_false]
            exact q3 J
      · refine no 3 (c_X8_copy (d := 29) (g_X8_copy_0 (by decide) (xupD (c_X2_faultOfPair ?_) (by decide)))) (fun J j1 j2 j3 j4 j5 j6 => c_X9_copy (d := 29) (g_X9_copy_0 (by decide) ?_))
        · simp only [x1, x2, w1, w2, c1, c2, g1, i1, lr10 b1, lt10 d1, lrm (show v < 100 by omega), lrm (show 10 + u' < 100 by omega), if_true, if_false]
          exact g_X8_copy_9 (by decide) (by rw [if_neg (by decide)]; exact n3)
        · simp only [y1, y2, w1, w2, c1, c2, j1, j2, g3, i2, l12, if_true, if_false]
          exact q3 J
    · refine no 3 (c_X8_copy (d := 29) (g_X8_copy_0 (by decide) (xupD (c_X2_faultOfPair ?_) (by decide)))) (fun J j1 j2 j3 j4 j5 j6 => c_X9_copy (d := 29) (g_X9_copy_0 (by decide) ?_))
      · simp only [x1, x2, w1, w2, c1, c2, g1, lt10 b1, lrm (show 10 + u < 100 by omega), if_true, if_false, ite_self]
        exact g_X8_copy_9 (by decide) (by rw [if_neg (by decide)]; exact n3)
      · simp only [y1, y2, w1, w2, c1, c2, j1, g2, if_true, if_false]
        exact q3 J
  · refine pr_q h 2 0 ?_ ?_
    · refine c_X8_copy (d := 29) (g_X8_copy_0 (by decide) (xupD (c_X2_faultOfPair (no2 e xi_shelf xi_shelf ?_)) (by decide)))
      exact g_X8_copy_9 (by decide) (by rw [if_neg (by decide)]; exact oX_no h (by decide) (by decide))
    · intro J hJ hM
      have r2 : oM J L z 2 0 (some (.int (-2))) (xS (xw J 82 2 (J 82 2 + 1)) L z) := oM_no (xsm_refl _ _) (by decide) (by decide)
      exact c_X9_copy (d := 29) (g_X9_copy_0 (by decide) (no2 e (m1 a1 J) (m1 a2 J) (u_refM (k := 2) (by decide) (by decide) (g_X9_copy_30 (by decide) r2))))
