theorem xTX_sm {S : Nat → Nat → Prop} {I J : xI} {t : Nat} {A : xAb} (h : xsm S I J) (h0 : ∀ k, k < 5 → ¬ S t k) (h1 : ∀ o, t < o → o ≤ t + 8 → ∀ k, ¬ S o k) (q : xTX I t A) : xTX J t A := by
  obtain ⟨⟨q1, q2, q3, q4, q5⟩, q6, q7, q8, q9, q10, q11, q12⟩ := q
  refine ⟨⟨?_, ?_, ?_, ?_, ?_⟩, ?_, ?_, ?_, ?_, ?_, ?_, ?_⟩
  · rw [h _ _ (h0 0 (by omega))]; exact q1
  · rw [h _ _ (h0 1 (by omega))]; exact q2
  · rw [h _ _ (h0 2 (by omega))]; exact q3
  · rw [h _ _ (h0 3 (by omega))]; exact q4
  · rw [h _ _ (h0 4 (by omega))]; exact q5
  · intro k hk; rw [h _ _ (h1 (t + 1) (by omega) (by omega) k)]; exact q6 k hk
  · intro k hk; rw [h _ _ (h1 (t + 2) (by omega) (by omega) k)]; exact q7 k hk
  · intro s hs l hl; rw [h _ _ (h1 (t + 3) (by omega) (by omega) _)]; exact q8 s hs l hl
  · intro k hk; rw [h _ _ (h1 (t + 4) (by omega) (by omega) k)]; exact q9 k hk
  · intro k hk; rw [h _ _ (h1 (t + 5) (by omega) (by omega) k)]; exact q10 k hk
  · intro k hk; rw [h _ _ (h1 (t + 6) (by omega) (by omega) k)]; exact q11 k hk
  · intro k hk; rw [h _ _ (h1 (t + 7) (by omega) (by omega) k), h _ _ (h1 (t + 8) (by omega) (by omega) k)]; exact q12 k hk
/-- the slots that the class finds its worlds in -/
def scrA : Nat → Nat → Prop := fun o k => (o = 37 ∧ k = 0) ∨ o = 38 ∨ o = 41
def scrW : Nat → Nat → Prop := fun o k => (o = 10 ∧ 5 ≤ k) ∨ (37 ≤ o ∧ o ≤ 42)
theorem xTX_A {I J : xI} {A : xAb} (h : xsm scrA I J) (q : xTX I 10 A) : xTX J 10 A := xTX_sm h (fun k hk => by unfold scrA; omega) (fun o a b k => by unfold scrA; omega) q
theorem xTX_W {I J : xI} {A : xAb} (h : xsm scrW I J) (q : xTX I 10 A) : xTX J 10 A := xTX_sm h (fun k hk => by unfold scrW; omega) (fun o a b k => by unfold scrW; omega) q
theorem xShf_sm {S : Nat → Nat → Prop} {I J : xI} (h : xsm S I J) (h2 : ∀ k, ¬ S 2 k) (q : xShf I) : xShf J := fun p hp => (h 2 p (h2 p)).trans (q p hp)
theorem gdL_at {L : List (List Nat)} {i : Nat} (h : i < L.length) : L.getD i [] = L[i] := by
  rw [List.getD_eq_getElem?_getD, List.getElem?_eq_getElem h]; rfl
theorem t_findMixed {A : xAb} {I : xI} {L : xL} {z : Bool × Bool × Nat} (hA : abOK A) (hX : xTX I 10 A) (hs : xShf I) : xCd 2 115 [.ref 37] (xS I L z) (fun r τ => r = none ∧ ∃ J, τ = xS J L z ∧ xsm scrA I J ∧ J 37 0 = Int32.ofNat (aMix A).length ∧ xLst J 38 (aMix A)) := by
  refine c_X7_findMixed (g_X7_findMixed_0 (Nat.zero_le _) ?_)
  have h2 := hA.1.1
  have h6 := hA.1.2
  have hsum := aC_sum hA
  obtain ⟨ok1, ⟨rh, ok2, ok3⟩, ⟨rl, ok4, ok5⟩⟩ := mixR_ok (ab_n A) (aC A) hsum
  have hmem : ∀ i, i < (mixR (ab_n A) (aC A)).length → (mixR (ab_n A) (aC A)).getD i [] ∈ mixR (ab_n A) (aC A) := fun i hi => by
    rw [gdL_at hi]; exact List.getElem_mem hi
  have hlen : (mixR (ab_n A) (aC A)).length ≤ 720 := by
    have q := mixR_len (ab_n A) (aC A) hsum
    have : mixF (ab_n A) ≤ 720 := by
      have hn : ab_n A = 2 ∨ ab_n A = 3 ∨ ab_n A = 4 ∨ ab_n A = 5 ∨ ab_n A = 6 := by omega
      rcases hn with e | e | e | e | e <;> rw [e] <;> decide
    omega
  have hpos : 0 < (mixR (ab_n A) (aC A)).length := by
    cases hm : mixR (ab_n A) (aC A) with
    | nil => rw [hm] at ok2; simp at ok2
    | cons a t => simp
  have hal : (aMix A).length = (mixR (ab_n A) (aC A)).length := by unfold aMix; rw [List.length_map]
  have hag : ∀ i, i < (mixR (ab_n A) (aC A)).length → (aMix A).getD i 0 = wc (gd ((mixR (ab_n A) (aC A)).getD i [])) (ab_n A) := fun i hi => by
    unfold aMix
    rw [List.getD_eq_getElem?_getD, List.getElem?_map, List.getElem?_eq_getElem hi, gdL_at hi]; rfl
  generalize hR : mixR (ab_n A) (aC A) = R at *
  -- the rows, one behind the other
  have k58 : ∀ i, i ≤ R.length → ∀ J : xI, xsm scrA I J → (0 < i → J 37 0 = Int32.ofNat i) → (∀ k, k < i → J 38 k = Int32.ofNat ((aMix A).getD k 0)) → (i < R.length → ∀ k, k < ab_n A → J 41 k = Int32.ofNat (gd (R.getD i []) k)) → h_X7_findMixed_58 1 (fun r τ => r = none ∧ ∃ J, τ = xS J L z ∧ xsm scrA I J ∧ J 37 0 = Int32.ofNat (aMix A).length ∧ xLst J 38 (aMix A)) (0, 0) J L z (Int32.ofNat (ab_n A)) (if i < R.length then 1 else 0) (Int32.ofNat i) := by
    refine xcount _ R.length ?_ ?_
    · intro i hi k J hJ j0 j1 j2
      refine g_X7_findMixed_58 (Nat.zero_le _) ?_
      have j2 := j2 hi
      obtain ⟨m1, m2, m3⟩ := aMix_row hA (by rw [hR]; exact hmem i hi)
      rw [if_pos (show Int32.ofNat i < (720 : Int32) from (xv_lt (b := 720) (by omega) (by decide)).mpr (by omega)), if_pos hi, if_neg (by decide)]
      refine xuse (t_worldIn (a0 := 41) (f := gd (R.getD i [])) rfl rfl rfl (xShf_sm hJ (fun k => by unfold scrA; omega) hs) h6 j2 (fun p hp => by have := m2 p hp; omega)) (by decide) ?_
      rintro _ _ ⟨rfl, rfl⟩
      refine g_X7_findMixed_82 (Nat.zero_le _) ?_
      have i7 : i < 720 := by omega
      simp (disch := omega) only [xl_0, xl_1, xl_2, xl_3, xl_4, xl_5, xl_6, xl_7, xl_8, xl_9, xl_10, xl_15, xl_18, xl_24, xl_31, xl_32, xl_36, xl_40, xl_48, xl_63, xl_64, xl_144, xl_250, xl_320, xl_720, xl_721, xl_1000, xl_1023, xl_1024, xv_lt, xv_eq, xv_in, xv_clamp, xv_add, xv_mul, xv_dec, xv_div, xv_mod, xv_m1, xv_m1', xv_and, xv_or, xv_shl, xv_shr, xv_bit0, xv_bit1, i7, if_true]
      have hJ' : xsm scrA I (xw (xw J 38 i (Int32.ofNat (wc (gd (R.getD i [])) (ab_n A)))) 37 0 (Int32.ofNat (i + 1))) := xsm_xw (Or.inl ⟨rfl, rfl⟩) (xsm_xw (Or.inr (Or.inl rfl)) hJ)
      have j41 : ∀ k, k < ab_n A → (xw (xw J 38 i (Int32.ofNat (wc (gd (R.getD i [])) (ab_n A)))) 37 0 (Int32.ofNat (i + 1))) 41 k = Int32.ofNat (gd (R.getD i []) k) := fun k hk => by
        rw [xw_ne1 (by decide), xw_ne1 (by decide)]; exact j2 k hk
      have j38 : ∀ k, k < i + 1 → (xw (xw J 38 i (Int32.ofNat (wc (gd (R.getD i [])) (ab_n A)))) 37 0 (Int32.ofNat (i + 1))) 38 k = Int32.ofNat ((aMix A).getD k 0) := fun k hk => by
        rw [xw_ne1 (by decide)]
        by_cases e : k = i
        · rw [e, xw_eq, hag i hi]
        · rw [xw_ne2 e]; exact j1 k (by omega)
      have j37 : (xw (xw J 38 i (Int32.ofNat (wc (gd (R.getD i [])) (ab_n A)))) 37 0 (Int32.ofNat (i + 1))) 37 0 = Int32.ofNat (i + 1) := xw_eq _ _ _ _
      refine xuse (t_stepMixed (r := gd (R.getD i [])) h2 h6 j41 m2) (by decide) ?_
      rintro v τ (⟨q1, rfl, rfl⟩ | ⟨a, b, q1, q2, rfl, J', rfl, q3, q4⟩)
      · refine g_X7_findMixed_95 (Nat.zero_le _) ?_
        have hl : ¬ i + 1 < R.length := fun q => by
          obtain ⟨x, y, x1, x2, x3, _⟩ := chn_at i ok1 q
          have := q1 x (by omega)
          omega
        have k' := k _ hJ' (fun _ => j37) j38 (fun q => absurd q hl)
        rw [if_neg hl] at k'
        rw [show Int32.ofNat i + 1 = Int32.ofNat (i + 1) from xv_add i 1]
        exact k'
      · refine g_X7_findMixed_95 (Nat.zero_le _) ?_
        have hl : i + 1 < R.length := by
          refine Nat.lt_of_not_le fun q => ?_
          have e : R.getD i [] = rl := by
            have : R.getLast? = some (R.getD i []) := by
              rw [List.getLast?_eq_getElem?, show R.length - 1 = i from by omega, gdL_at hi, List.getElem?_eq_getElem hi]
            rw [this] at ok4
            exact Option.some.inj ok4
          obtain ⟨x1, x2, x3⟩ := q1
          rw [e] at x2
          rw [ok5 _ (by omega), ok5 _ (by omega)] at x2
          have := dscF_le (aC A) a
          omega
        have k' := k J' (xsm_trans hJ' (xsm_mono q3 (fun o j e => Or.inr (Or.inr e)))) (fun _ => by rw [q3 _ _ (by unfold xAt; decide)]; exact j37) (fun k hk => by rw [q3 _ _ (by unfold xAt; omega)]; exact j38 k hk) (fun _ k hk => by
          rw [q4 k hk, step_uniq (chn_at i ok1 hl) q1 q2 k hk])
        rw [if_pos hl] at k'
        rw [show Int32.ofNat i + 1 = Int32.ofNat (i + 1) from xv_add i 1]
        exact k'
    · intro J hJ j0 j1 j2
      refine g_X7_findMixed_58 (Nat.zero_le _) ?_
      have q : (fun (r : Option Value) (τ : xH) => r = none ∧ ∃ J, τ = xS J L z ∧ xsm scrA I J ∧ J 37 0 = Int32.ofNat (aMix A).length ∧ xLst J 38 (aMix A)) none (xS J L z) := ⟨rfl, J, rfl, hJ, by rw [hal]; exact j0 hpos, fun k hk => j1 k (by omega)⟩
      rw [if_neg (Nat.lt_irrefl _), if_pos rfl]
      split
      · exact q
      · exact q
  have k4 : ∀ s, s ≤ 6 → ∀ J : xI, xsm scrA I J → (∀ k, k < mixS (aC A) s → J 41 k = Int32.ofNat (ascF (aC A) k)) → h_X7_findMixed_4 1 (fun r τ => r = none ∧ ∃ J, τ = xS J L z ∧ xsm scrA I J ∧ J 37 0 = Int32.ofNat (aMix A).length ∧ xLst J 38 (aMix A)) (0, 0) J L z (Int32.ofNat (mixS (aC A) s)) (Int32.ofNat s) := by
    refine xcount _ 6 ?_ ?_
    · intro s hs6 k J hJ j1
      refine g_X7_findMixed_4 (Nat.zero_le _) ?_
      rw [if_pos (show Int32.ofNat s < (6 : Int32) from (xv_lt (b := 6) (by omega) (by decide)).mpr hs6)]
      refine xuse (t_howManyPoured hA (xTX_A hJ hX) hs6) (by decide) ?_
      rintro _ _ ⟨rfl, rfl⟩
      refine g_X7_findMixed_18 (Nat.zero_le _) ?_
      have hle : mixS (aC A) (s + 1) ≤ ab_n A := by rw [← hsum]; exact mixS_mono (by omega)
      have es : mixS (aC A) (s + 1) = mixS (aC A) s + aC A s := rfl
      have k19 : ∀ t, t ≤ aC A s → ∀ J : xI, xsm scrA I J → (∀ k, k < mixS (aC A) s + t → J 41 k = Int32.ofNat (ascF (aC A) k)) → h_X7_findMixed_19 1 (fun r τ => r = none ∧ ∃ J, τ = xS J L z ∧ xsm scrA I J ∧ J 37 0 = Int32.ofNat (aMix A).length ∧ xLst J 38 (aMix A)) (0, 0) J L z (Int32.ofNat (mixS (aC A) s + t)) (Int32.ofNat s) (Int32.ofNat (aC A s - t)) := by
        refine xcount _ (aC A s) ?_ ?_
        · intro t ht k' J hJ j1
          refine g_X7_findMixed_19 (Nat.zero_le _) ?_
          have q1 : 0 < aC A s - t := by omega
          have q2 : mixS (aC A) s + t < 6 := by omega
          simp (disch := omega) only [xl_0, xl_1, xl_2, xl_3, xl_4, xl_5, xl_6, xl_7, xl_8, xl_9, xl_10, xl_15, xl_18, xl_24, xl_31, xl_32, xl_36, xl_40, xl_48, xl_63, xl_64, xl_144, xl_250, xl_320, xl_720, xl_721, xl_1000, xl_1023, xl_1024, xv_lt, xv_eq, xv_in, xv_clamp, xv_add, xv_mul, xv_dec, xv_div, xv_mod, xv_m1, xv_m1', xv_and, xv_or, xv_shl, xv_shr, xv_bit0, xv_bit1, q1, q2, if_true, Nat.sub_sub]
          refine k' _ (xsm_xw (Or.inr (Or.inr rfl)) hJ) ?_
          intro k hk
          by_cases e : k = mixS (aC A) s + t
          · rw [e, xw_eq, asc_val hs6 (by omega) (by omega)]
          · rw [xw_ne2 e]; exact j1 k (by omega)
        · intro J hJ j1
          refine g_X7_findMixed_19 (Nat.zero_le _) ?_
          simp (disch := omega) only [xl_0, xl_1, xl_2, xl_3, xl_4, xl_5, xl_6, xl_7, xl_8, xl_9, xl_10, xl_15, xl_18, xl_24, xl_31, xl_32, xl_36, xl_40, xl_48, xl_63, xl_64, xl_144, xl_250, xl_320, xl_720, xl_721, xl_1000, xl_1023, xl_1024, xv_lt, xv_eq, xv_in, xv_clamp, xv_add, xv_mul, xv_dec, xv_div, xv_mod, xv_m1, xv_m1', xv_and, xv_or, xv_shl, xv_shr, xv_bit0, xv_bit1, Nat.sub_self, Nat.lt_irrefl, if_false]
          exact k J hJ j1
      exact k19 0 (Nat.zero_le _) J hJ (fun k hk => j1 k hk)
    · intro J hJ j1
      refine g_X7_findMixed_4 (Nat.zero_le _) ?_
      rw [if_neg (by decide), hsum]
      rw [hsum] at j1
      have q := k58 0 (Nat.zero_le _) J hJ (fun q => absurd q (Nat.lt_irrefl _)) (fun k hk => absurd hk (Nat.not_lt_zero _)) (fun _ k hk => by
        have e : R.getD 0 [] = rh := by
          rw [List.head?_eq_getElem?] at ok2
          rw [List.getD_eq_getElem?_getD, ok2]; rfl
        rw [e, ok3 k hk]; exact j1 k hk)
      rw [if_pos hpos] at q
      exact q
  exact k4 0 (Nat.zero_le _) I (xsm_refl _ _) (fun k hk => absurd hk (Nat.not_lt_zero _))
