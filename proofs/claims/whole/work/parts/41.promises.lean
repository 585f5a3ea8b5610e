def ab_seedTo (A : xAb) (v : Int32) : xAb := ((A.1.1, A.1.2.1, v), A.2)
def ab_lawTo (A : xAb) (v : Nat) : xAb := ((A.1.1, v, A.1.2.2), A.2)
theorem xTX_seed {I : xI} {t : Nat} {A : xAb} {v : Int32} (q : xTX I t A) : xTX (xw I t 2 v) t (ab_seedTo A v) := by
  obtain ⟨⟨q1, q2, q3, q4, q5⟩, q6, q7, q8, q9, q10, q11, q12⟩ := q
  refine ⟨⟨?_, ?_, ?_, ?_, ?_⟩, ?_, ?_, ?_, ?_, ?_, ?_, ?_⟩
  · rw [xw_ne2 (by decide)]; exact q1
  · rw [xw_ne2 (by decide)]; exact q2
  · rw [xw_eq]; rfl
  · rw [xw_ne2 (by decide)]; exact q4
  · rw [xw_ne2 (by decide)]; exact q5
  · intro k hk; rw [xw_ne1 (by omega)]; exact q6 k hk
  · intro k hk; rw [xw_ne1 (by omega)]; exact q7 k hk
  · intro s hs l hl; rw [xw_ne1 (by omega)]; exact q8 s hs l hl
  · intro k hk; rw [xw_ne1 (by omega)]; exact q9 k hk
  · intro k hk; rw [xw_ne1 (by omega)]; exact q10 k hk
  · intro k hk; rw [xw_ne1 (by omega)]; exact q11 k hk
  · intro k hk; rw [xw_ne1 (by omega), xw_ne1 (by omega)]; exact q12 k hk
theorem xTM_seed {I : xI} {m : Nat} {A : xAb} {v : Int32} (q : xTM I m A) : xTM (xw I m 20 v) m (ab_seedTo A v) := by
  obtain ⟨⟨q1, q2, q3, q4⟩, q6, q7, q8, q9, q10, q11, q12⟩ := q
  refine ⟨⟨?_, ?_, ?_, ?_⟩, ?_, ?_, ?_, ?_, ?_, ?_, ?_⟩
  · rw [xw_ne2 (by decide)]; exact q1
  · rw [xw_ne2 (by decide)]; exact q2
  · rw [xw_eq]; rfl
  · rw [xw_ne2 (by decide)]; exact q4
  · intro k hk; rw [xw_ne1 (by omega)]; exact q6 k hk
  · intro k hk; rw [xw_ne1 (by omega)]; exact q7 k hk
  · intro s hs
    obtain ⟨q, r⟩ := q8 s hs
    exact ⟨fun l hl => by rw [xw_ne1 (by omega)]; exact q l hl, by rw [xw_ne1 (by omega)]; exact r⟩
  · intro k hk; rw [xw_ne1 (by omega)]; exact q9 k hk
  · intro k hk; rw [xw_ne1 (by omega)]; exact q10 k hk
  · intro p hp k hk; rw [xw_ne1 (by omega)]; exact q11 p hp k hk
  · intro k hk; rw [xw_ne1 (by omega), xw_ne1 (by omega)]; exact q12 k hk
theorem xTX_law {I : xI} {t v : Nat} {A : xAb} (q : xTX I t A) : xTX (xw I t 1 (Int32.ofNat v)) t (ab_lawTo A v) := by
  obtain ⟨⟨q1, q2, q3, q4, q5⟩, q6, q7, q8, q9, q10, q11, q12⟩ := q
  refine ⟨⟨?_, ?_, ?_, ?_, ?_⟩, ?_, ?_, ?_, ?_, ?_, ?_, ?_⟩
  · rw [xw_ne2 (by decide)]; exact q1
  · rw [xw_eq]; rfl
  · rw [xw_ne2 (by decide)]; exact q3
  · rw [xw_ne2 (by decide)]; exact q4
  · rw [xw_ne2 (by decide)]; exact q5
  · intro k hk; rw [xw_ne1 (by omega)]; exact q6 k hk
  · intro k hk; rw [xw_ne1 (by omega)]; exact q7 k hk
  · intro s hs l hl; rw [xw_ne1 (by omega)]; exact q8 s hs l hl
  · intro k hk; rw [xw_ne1 (by omega)]; exact q9 k hk
  · intro k hk; rw [xw_ne1 (by omega)]; exact q10 k hk
  · intro k hk; rw [xw_ne1 (by omega)]; exact q11 k hk
  · intro k hk; rw [xw_ne1 (by omega), xw_ne1 (by omega)]; exact q12 k hk
theorem xTM_law {I : xI} {m v : Nat} {A : xAb} (q : xTM I m A) : xTM (xw I m 10 (Int32.ofNat v)) m (ab_lawTo A v) := by
  obtain ⟨⟨q1, q2, q3, q4⟩, q6, q7, q8, q9, q10, q11, q12⟩ := q
  refine ⟨⟨?_, ?_, ?_, ?_⟩, ?_, ?_, ?_, ?_, ?_, ?_, ?_⟩
  · rw [xw_ne2 (by decide)]; exact q1
  · rw [xw_eq]; rfl
  · rw [xw_ne2 (by decide)]; exact q3
  · rw [xw_ne2 (by decide)]; exact q4
  · intro k hk; rw [xw_ne1 (by omega)]; exact q6 k hk
  · intro k hk; rw [xw_ne1 (by omega)]; exact q7 k hk
  · intro s hs
    obtain ⟨q, r⟩ := q8 s hs
    exact ⟨fun l hl => by rw [xw_ne1 (by omega)]; exact q l hl, by rw [xw_ne1 (by omega)]; exact r⟩
  · intro k hk; rw [xw_ne1 (by omega)]; exact q9 k hk
  · intro k hk; rw [xw_ne1 (by omega)]; exact q10 k hk
  · intro p hp k hk; rw [xw_ne1 (by omega)]; exact q11 p hp k hk
  · intro k hk; rw [xw_ne1 (by omega), xw_ne1 (by omega)]; exact q12 k hk
/-- slots of a tray that say what is old bear no value -/
theorem xTX_old {I : xI} {t k : Nat} {A : xAb} {v : Int32} (hk : 5 ≤ k) (q : xTX I t A) : xTX (xw I t k v) t A := by
  obtain ⟨⟨q1, q2, q3, q4, q5⟩, q6, q7, q8, q9, q10, q11, q12⟩ := q
  refine ⟨⟨?_, ?_, ?_, ?_, ?_⟩, ?_, ?_, ?_, ?_, ?_, ?_, ?_⟩
  · rw [xw_ne2 (by omega)]; exact q1
  · rw [xw_ne2 (by omega)]; exact q2
  · rw [xw_ne2 (by omega)]; exact q3
  · rw [xw_ne2 (by omega)]; exact q4
  · rw [xw_ne2 (by omega)]; exact q5
  · intro k hk; rw [xw_ne1 (by omega)]; exact q6 k hk
  · intro k hk; rw [xw_ne1 (by omega)]; exact q7 k hk
  · intro s hs l hl; rw [xw_ne1 (by omega)]; exact q8 s hs l hl
  · intro k hk; rw [xw_ne1 (by omega)]; exact q9 k hk
  · intro k hk; rw [xw_ne1 (by omega)]; exact q10 k hk
  · intro k hk; rw [xw_ne1 (by omega)]; exact q11 k hk
  · intro k hk; rw [xw_ne1 (by omega), xw_ne1 (by omega)]; exact q12 k hk
/-- the current tray and the reference's own state change; all else stands -/
theorem xBoth_tray {A B : xAb} {I J : xI} {L : xL} {z : Bool × Bool × Nat} (h : xBoth A I L z) (hB : abOK B) (hX : xTX J 10 B) (hM : xTM J 66 B) (ht : J 10 4 = I 10 4)
    (hx : ∀ o, (19 ≤ o ∧ o ≤ 27) ∨ o = 58 ∨ o = 59 ∨ o = 61 ∨ o = 62 ∨ o = 65 ∨ (67 ≤ o ∧ o ≤ 69) ∨ o = 80 ∨ o = 81 ∨ o = 82 ∨ (112 ≤ o ∧ o ≤ 148) ∨ o = 9 → ∀ k, J o k = I o k) (h7 : J 66 7 = I 66 7) : xBoth B J L z := by
  obtain ⟨h0, h1, h2, h3, h4, h5, h6, h7'⟩ := h
  refine ⟨hB, hX, hM, ?_, ?_, ?_, ?_, ?_⟩
  · intro s hs
    have e := h3 s hs
    unfold xShM at e ⊢
    rw [hx 58 (by omega), hx 59 (by omega), hx 67 (by omega), hx 68 (by omega), hx 69 (by omega), hx 80 (by omega), ht]
    exact e
  · intro i hi; rw [hx 65 (by omega), hx 82 (by omega)]; exact h4 i hi
  · obtain ⟨n, a, b, c, e⟩ := h5
    refine ⟨n, a, ?_, ?_, ?_⟩
    · rw [hx 61 (by omega)]; exact b
    · rw [h7]; exact c
    · intro i hi; rw [hx 62 (by omega), hx 81 (by omega)]; exact e i hi
  · rw [hx 9 (by omega)]; exact h6
  · intro hz
    obtain ⟨C, a, b, c⟩ := h7' hz
    exact ⟨C, a, xTX_congr (fun o a b k => hx o (by omega) k) b, xTM_congr (hx 112 (by omega) 9) (hx 112 (by omega) 10) (hx 112 (by omega) 17) (hx 112 (by omega) 20) (fun o a b k => hx o (by omega) k) c⟩
theorem pr_seed (a1 : Int32) : xPr 5 173 293 [.int a1] := by
  intro A I L z h
  refine xupD (c_X8_seed ?_) (by decide)
  refine xupD (c_X9_seed ?_) (by decide)
  refine ⟨?_, ab_seedTo A a1, _, _, _, rfl, ?_⟩
  · rw [xw_ne1 (by decide), h.2.1.1.2.2.1, h.2.2.1.1.2.2.1]
  · refine xBoth_tray h h.1 ?_ ?_ ?_ ?_ ?_
    · exact xTX_congr (fun o a b k => xw_ne1 (by omega)) (xTX_seed h.2.1)
    · exact xTM_seed (xTM_congr (xw_ne1 (by decide)) (xw_ne1 (by decide)) (xw_ne1 (by decide)) (xw_ne1 (by decide)) (fun o a b k => xw_ne1 (by omega)) h.2.2.1)
    · rw [xw_ne1 (by decide), xw_ne2 (by decide)]
    · intro o ho k; rw [xw_ne1 (by omega), xw_ne1 (by omega)]
    · rw [xw_ne2 (by decide), xw_ne1 (by decide)]
theorem pr_law (a1 : Int32) : xPr 5 142 211 [.int a1] := by
  intro A I L z h
  refine xupD (c_X8_law ?_) (by decide)
  by_cases h1 : a1 < 0
  · rw [if_pos h1]
    refine xupD (c_X9_law ?_) (by decide)
    rw [if_neg (fun q => by
      have q := (xp_in (by decide) (by decide)).mp q
      rw [Int32.lt_iff_toInt_lt] at h1
      have e0 : (0 : Int32).toInt = 0 := rfl
      omega)]
    exact ⟨rfl, A, _, _, _, rfl, xBoth_refuse (k := 2) (by decide) (by decide) h⟩
  · by_cases h2 : 2 < a1
    · rw [if_neg h1, if_pos h2]
      refine xupD (c_X9_law ?_) (by decide)
      rw [if_neg (fun q => by
        have q := (xp_in (by decide) (by decide)).mp q
        rw [Int32.lt_iff_toInt_lt] at h2
        have e0 : (2 : Int32).toInt = 2 := rfl
        omega)]
      exact ⟨rfl, A, _, _, _, rfl, xBoth_refuse (k := 2) (by decide) (by decide) h⟩
    · rw [if_neg h1, if_neg h2]
      obtain ⟨v, hv, rfl⟩ := xv_of h1
      have hv2 : v ≤ 2 := by
        rw [Int32.lt_iff_toInt_lt, xv_int hv] at h2
        have e0 : (2 : Int32).toInt = 2 := rfl
        omega
      refine xupD (c_X9_law ?_) (by decide)
      rw [if_pos ((xp_in (by decide) (by decide)).mpr (by rw [xv_int hv]; omega))]
      refine ⟨?_, ab_lawTo A v, _, _, _, rfl, ?_⟩
      · rw [xw_ne1 (by decide), xw_ne1 (by decide), h.2.1.1.2.1, h.2.2.1.1.2.1]
      · refine xBoth_tray h ⟨h.1.1, hv2, h.1.2.2⟩ ?_ ?_ ?_ ?_ ?_
        · exact xTX_congr (fun o a b k => xw_ne1 (by omega)) (xTX_old (by decide) (xTX_law h.2.1))
        · exact xTM_law (xTM_congr (by rw [xw_ne1 (by decide), xw_ne1 (by decide)]) (by rw [xw_ne1 (by decide), xw_ne1 (by decide)]) (by rw [xw_ne1 (by decide), xw_ne1 (by decide)]) (by rw [xw_ne1 (by decide), xw_ne1 (by decide)]) (fun o a b k => by rw [xw_ne1 (by omega), xw_ne1 (by omega)]) h.2.2.1)
        · rw [xw_ne1 (by decide), xw_ne2 (by decide), xw_ne2 (by decide)]
        · intro o ho k; rw [xw_ne1 (by omega), xw_ne1 (by omega), xw_ne1 (by omega)]
        · rw [xw_ne2 (by decide), xw_ne1 (by decide), xw_ne1 (by decide)]
