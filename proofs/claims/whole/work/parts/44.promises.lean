def ab_guestTo (A : xAb) (g : Nat) (w : Int32) (m : Nat) : xAb := (A.1, A.2.1, A.2.2.1, A.2.2.2.1, (fun k => if k = g then w else ab_want A k), (fun k => if k = g then m else ab_mind A k), A.2.2.2.2.2.2)
theorem xTX_guest {I : xI} {t g m : Nat} {w : Int32} {A : xAb} (q : xTX I t A) : xTX (xw (xw I (t + 4) g w) (t + 5) g (Int32.ofNat m)) t (ab_guestTo A g w m) := by
  obtain ⟨⟨q1, q2, q3, q4, q5⟩, q6, q7, q8, q9, q10, q11, q12⟩ := q
  refine ⟨⟨?_, ?_, ?_, ?_, ?_⟩, ?_, ?_, ?_, ?_, ?_, ?_, ?_⟩
  · rw [xw_ne1 (by omega), xw_ne1 (by omega)]; exact q1
  · rw [xw_ne1 (by omega), xw_ne1 (by omega)]; exact q2
  · rw [xw_ne1 (by omega), xw_ne1 (by omega)]; exact q3
  · rw [xw_ne1 (by omega), xw_ne1 (by omega)]; exact q4
  · rw [xw_ne1 (by omega), xw_ne1 (by omega)]; exact q5
  · intro k hk; rw [xw_ne1 (by omega), xw_ne1 (by omega)]; exact q6 k hk
  · intro k hk; rw [xw_ne1 (by omega), xw_ne1 (by omega)]; exact q7 k hk
  · intro s hs l hl; rw [xw_ne1 (by omega), xw_ne1 (by omega)]; exact q8 s hs l hl
  · intro k hk
    rw [xw_ne1 (by omega)]
    show _ = if k = g then w else ab_want A k
    by_cases e : k = g
    · rw [if_pos e, e, xw_eq]
    · rw [if_neg e, xw_ne2 e]; exact q9 k hk
  · intro k hk
    show _ = Int32.ofNat (if k = g then m else ab_mind A k)
    by_cases e : k = g
    · rw [if_pos e, e, xw_eq]
    · rw [if_neg e, xw_ne2 e, xw_ne1 (by omega)]; exact q10 k hk
  · intro k hk; rw [xw_ne1 (by omega), xw_ne1 (by omega)]; exact q11 k hk
  · intro k hk; rw [xw_ne1 (by omega), xw_ne1 (by omega), xw_ne1 (by omega), xw_ne1 (by omega)]; exact q12 k hk
theorem xTM_guest {I : xI} {t g m : Nat} {w : Int32} {A : xAb} (q : xTM I t A) : xTM (xw (xw I (t + 26) g w) (t + 27) g (Int32.ofNat m)) t (ab_guestTo A g w m) := by
  obtain ⟨⟨q1, q2, q3, q4⟩, q6, q7, q8, q9, q10, q11, q12⟩ := q
  refine ⟨⟨?_, ?_, ?_, ?_⟩, ?_, ?_, ?_, ?_, ?_, ?_, ?_⟩
  · rw [xw_ne1 (by omega), xw_ne1 (by omega)]; exact q1
  · rw [xw_ne1 (by omega), xw_ne1 (by omega)]; exact q2
  · rw [xw_ne1 (by omega), xw_ne1 (by omega)]; exact q3
  · rw [xw_ne1 (by omega), xw_ne1 (by omega)]; exact q4
  · intro k hk; rw [xw_ne1 (by omega), xw_ne1 (by omega)]; exact q6 k hk
  · intro k hk; rw [xw_ne1 (by omega), xw_ne1 (by omega)]; exact q7 k hk
  · intro s hs
    obtain ⟨q, r⟩ := q8 s hs
    exact ⟨fun l hl => by rw [xw_ne1 (by omega), xw_ne1 (by omega)]; exact q l hl, by rw [xw_ne1 (by omega), xw_ne1 (by omega)]; exact r⟩
  · intro k hk
    rw [xw_ne1 (by omega)]
    show _ = if k = g then w else ab_want A k
    by_cases e : k = g
    · rw [if_pos e, e, xw_eq]
    · rw [if_neg e, xw_ne2 e]; exact q9 k hk
  · intro k hk
    show _ = Int32.ofNat (if k = g then m else ab_mind A k)
    by_cases e : k = g
    · rw [if_pos e, e, xw_eq]
    · rw [if_neg e, xw_ne2 e, xw_ne1 (by omega)]; exact q10 k hk
  · intro p hp k hk; rw [xw_ne1 (by omega), xw_ne1 (by omega)]; exact q11 p hp k hk
  · intro k hk; rw [xw_ne1 (by omega), xw_ne1 (by omega), xw_ne1 (by omega), xw_ne1 (by omega)]; exact q12 k hk
theorem pr_guest (a1 a2 a3 : Int32) : xPr 5 144 213 [.int a1, .int a2, .int a3] := by
  intro A I L z h
  have hn : I 10 0 = Int32.ofNat (ab_n A) := h.2.1.1.1
  have hm : I 66 9 = Int32.ofNat (ab_n A) := h.2.2.1.1.1
  have h6 : ab_n A ≤ 6 := h.1.1.2
  have e0 : (0 : Int32).toInt = 0 := rfl
  have e6 : (6 : Int32).toInt = 6 := rfl
  have e9 : (9 : Int32).toInt = 9 := rfl
  have f1 : (Int64.ofNat 18446744073709551615).toInt = -1 := rfl
  have f0 : (Int64.ofNat 0).toInt = 0 := rfl
  have f5 : (Int64.ofNat 5).toInt = 5 := rfl
  have f9 : (Int64.ofNat 9).toInt = 9 := rfl
  have X1 := xp_hasPlace (L := L) (a := a1) hn h.1.1.2
  have X2 : p_X8_isSort I L a2 ↔ (0 ≤ a2.toInt ∧ a2.toInt < 6) := by
    show (¬ a2 < 0 ∧ a2 < 6) ↔ _
    simp only [Int32.lt_iff_toInt_lt, e0, e6]
    omega
  have X3 : p_X8_isNumber I L a3 ↔ (0 ≤ a3.toInt ∧ a3.toInt ≤ 9) := by
    show (¬ a3 < 0 ∧ ¬ 9 < a3) ↔ _
    simp only [Int32.lt_iff_toInt_lt, e0, e9]
    omega
  have E1 : a2 = -1 ↔ a2.toInt = -1 := ⟨fun q => by rw [q]; rfl, fun q => Int32.toInt_inj.mp (by rw [q]; rfl)⟩
  have M1 : ∀ J : xI, J 66 9 = I 66 9 → (p_X9_isPlace J L (Int32.toInt64 a1) ↔ (0 ≤ a1.toInt ∧ a1.toInt < (ab_n A : Int))) := fun J q => xp_isPlace (q.trans hm) h.1.1.1 h.1.1.2
  have M2 : ∀ J : xI, p_X9_in J L (Int32.toInt64 a2) (Int64.ofNat 18446744073709551615) (Int64.ofNat 5) ↔ (-1 ≤ a2.toInt ∧ a2.toInt ≤ 5) := fun J => by rw [xp_inG, f1, f5]
  have M3 : ∀ J : xI, p_X9_in J L (Int32.toInt64 a3) (Int64.ofNat 0) (Int64.ofNat 9) ↔ (0 ≤ a3.toInt ∧ a3.toInt ≤ 9) := fun J => by rw [xp_inG, f0, f9]
  refine xupD (c_X8_guest ?_) (by decide)
  have no : ¬ ((0 ≤ a1.toInt ∧ a1.toInt < (ab_n A : Int)) ∧ (-1 ≤ a2.toInt ∧ a2.toInt ≤ 5) ∧ (0 ≤ a3.toInt ∧ a3.toInt ≤ 9)) → xCd 5 213 [.ref 66, .int a1, .int a2, .int a3] (xS (xrfu I (-2 : Int32)) L z) (fun r' τ' => r' = some (.int (-2 : Int32)) ∧ ∃ A' I' L' z', τ' = xS I' L' z' ∧ xBoth A' I' L' z') := by
    intro hno
    have hJ : xrfu I (-2 : Int32) 66 9 = I 66 9 := by
      rw [show xrfu I (-2 : Int32) = xw I 65 0 (I 65 0 + 1) from xrfu_at (k := 2) (by decide) (by decide), xw_ne1 (by decide)]
    refine xupD (c_X9_guest ?_) (by decide)
    by_cases c1 : 0 ≤ a1.toInt ∧ a1.toInt < (ab_n A : Int)
    · rw [if_pos ((M1 _ hJ).mpr c1)]
      by_cases c2 : -1 ≤ a2.toInt ∧ a2.toInt ≤ 5
      · rw [if_pos ((M2 _).mpr c2), if_neg (fun q => hno ⟨c1, c2, (M3 _).mp q⟩)]
        exact ⟨rfl, A, _, _, _, rfl, xBoth_refuse (k := 2) (by decide) (by decide) h⟩
      · rw [if_neg (fun q => c2 ((M2 _).mp q))]
        exact ⟨rfl, A, _, _, _, rfl, xBoth_refuse (k := 2) (by decide) (by decide) h⟩
    · rw [if_neg (fun q => c1 ((M1 _ hJ).mp q))]
      exact ⟨rfl, A, _, _, _, rfl, xBoth_refuse (k := 2) (by decide) (by decide) h⟩
  by_cases c1 : 0 ≤ a1.toInt ∧ a1.toInt < (ab_n A : Int)
  · have P := X1.mpr c1
    obtain ⟨v, hv, rfl⟩ := xv_of (xv_nn c1.1)
    have hv6 : v < 6 := by
      have q := c1.2
      rw [xv_int hv] at q
      omega
    have hi : xin (Int32.ofNat v) 6 := (xv_in hv).mpr hv6
    have acc : (-1 ≤ a2.toInt ∧ a2.toInt ≤ 5) → (0 ≤ a3.toInt ∧ a3.toInt ≤ 9) → xCd 5 213 [.ref 66, .int (Int32.ofNat v), .int a2, .int a3] (xS (xw (xw I 14 (Int32.toNatClampNeg (Int32.ofNat v)) a2) 15 (Int32.toNatClampNeg (Int32.ofNat v)) a3) L z) (fun r' τ' => r' = some (.int 1) ∧ ∃ A' I' L' z', τ' = xS I' L' z' ∧ xBoth A' I' L' z') := by
      intro c2 c3
      rw [xv_clamp hv]
      refine xupD (c_X9_guest ?_) (by decide)
      rw [if_pos ((M1 _ (by rw [xw_ne1 (by decide), xw_ne1 (by decide)])).mpr c1), if_pos ((M2 _).mpr c2), if_pos ((M3 _).mpr c3)]
      simp only [if_pos hi]
      rw [xv_clamp hv]
      obtain ⟨m, hm3, rfl⟩ := xv_of (xv_nn c3.1)
      have hm9 : m < 10 := by
        have q := c3.2
        rw [xv_int hm3] at q
        omega
      have a2v : a2 = -1 ∨ ∃ u, u < 6 ∧ a2 = Int32.ofNat u := by
        by_cases q : a2 = -1
        · exact Or.inl q
        · have q1 : ¬ a2.toInt = -1 := fun x => q (E1.mpr x)
          obtain ⟨u, hu, e⟩ := xv_of (xv_nn (a := a2) (by omega))
          refine Or.inr ⟨u, ?_, e⟩
          have q2 := c2.2
          rw [e, xv_int hu] at q2
          omega
      refine ⟨trivial, ab_guestTo A v a2 m, _, _, _, rfl, ?_⟩
      obtain ⟨k1, k2, k3, k4, k5, k6, k7, k8, k9, k10⟩ := h.1
      refine xBoth_tray h ⟨k1, k2, k3, k4, k5, k6, ?_, ?_, k9, k10⟩ ?_ ?_ ?_ ?_ ?_
      · intro k hk
        show (if k = v then a2 else ab_want A k) = -1 ∨ ∃ u, u < 6 ∧ (if k = v then a2 else ab_want A k) = Int32.ofNat u
        by_cases e : k = v
        · rw [if_pos e]; exact a2v
        · rw [if_neg e]; exact k7 k hk
      · intro k hk
        show (if k = v then m else ab_mind A k) < 10
        by_cases e : k = v
        · rw [if_pos e]; exact hm9
        · rw [if_neg e]; exact k8 k hk
      · exact xTX_congr (fun o a b k => by rw [xw_ne1 (by omega), xw_ne1 (by omega)]) (xTX_guest (t := 10) h.2.1)
      · exact xTM_guest (t := 66) (xTM_congr (by rw [xw_ne1 (by decide), xw_ne1 (by decide)]) (by rw [xw_ne1 (by decide), xw_ne1 (by decide)]) (by rw [xw_ne1 (by decide), xw_ne1 (by decide)]) (by rw [xw_ne1 (by decide), xw_ne1 (by decide)]) (fun o a b k => by rw [xw_ne1 (by omega), xw_ne1 (by omega)]) h.2.2.1)
      · rw [xw_ne1 (by decide), xw_ne1 (by decide), xw_ne1 (by decide), xw_ne1 (by decide)]
      · intro o ho k; rw [xw_ne1 (by omega), xw_ne1 (by omega), xw_ne1 (by omega), xw_ne1 (by omega)]
      · rw [xw_ne1 (by decide), xw_ne1 (by decide), xw_ne1 (by decide), xw_ne1 (by decide)]
    rw [if_pos P]
    by_cases c3 : 0 ≤ a3.toInt ∧ a3.toInt ≤ 9
    · have P3 := X3.mpr c3
      by_cases q : a2 = -1
      · rw [if_pos q, if_pos P3]
        simp only [if_pos hi]
        first | exact acc (by rw [E1.mp q]; omega) c3 | (rw [if_pos P]; exact acc (by rw [E1.mp q]; omega) c3)
      · rw [if_neg q]
        by_cases c2 : 0 ≤ a2.toInt ∧ a2.toInt < 6
        · rw [if_pos (X2.mpr c2), if_pos P3]
          simp only [if_pos hi]
          first | exact acc (by omega) c3 | (rw [if_pos P]; exact acc (by omega) c3)
        · rw [if_neg (fun x => c2 (X2.mp x))]
          refine no (fun x => ?_)
          have q1 : ¬ a2.toInt = -1 := fun y => q (E1.mpr y)
          exact c2 (by have := x.2.1; omega)
    · have P3 : ¬ p_X8_isNumber I L a3 := fun x => c3 (X3.mp x)
      have hno := no (fun x => c3 x.2.2)
      by_cases q : a2 = -1
      · rw [if_pos q, if_neg P3]; exact hno
      · rw [if_neg q]
        by_cases c2 : p_X8_isSort I L a2
        · rw [if_pos c2, if_neg P3]; exact hno
        · rw [if_neg c2]; exact hno
  · rw [if_neg (fun x => c1 (X1.mp x))]
    exact no (fun x => c1 x.1)
