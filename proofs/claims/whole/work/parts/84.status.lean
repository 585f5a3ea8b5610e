/-! promises: status -/
def aBits (f : Nat → Nat) : Nat → Nat
  | 0 => 0
  | i + 1 => aBits f i ||| 2 ^ f i
theorem aBits_lt {f : Nat → Nat} : ∀ n, (∀ i, i < n → f i < 6) → aBits f n < 2 ^ 6
  | 0, _ => Nat.two_pow_pos 6
  | n + 1, h => by
    have := aBits_lt n (fun i hi => h i (by omega))
    exact Nat.or_lt_two_pow this (Nat.pow_lt_pow_right (by decide) (h n (by omega)))
theorem t_unlike {A : xAb} {I : xI} {L : xL} {z : Bool × Bool × Nat} (hA : abOK A) (hX : xTX I 10 A) : xCd 2 103 [.ref 10] (xS I L z) (qP I L z (Int32.ofNat (pcn (aBits (ab_pour A) (ab_n A)) 6))) := by
  refine c_X6_unlikePoured (d := 1) (g_X6_unlikePoured_0 (by decide) ?_)
  have h6 := hA.1.2
  have hn := hX.1.1
  have key : ∀ i, i ≤ ab_n A → h_X6_unlikePoured_4 1 (qP I L z (Int32.ofNat (pcn (aBits (ab_pour A) (ab_n A)) 6))) (0, 0) I L z (Int32.ofNat (aBits (ab_pour A) i)) (Int32.ofNat i) := by
    refine xcount _ (ab_n A) ?_ ?_
    · intro i hi KK
      refine g_X6_unlikePoured_4 (by decide) ?_
      have i6 : i < 6 := by omega
      have hv := hX.2.1 i i6
      have h5 := hA.2.2.1 i i6
      simp (disch := omega) only [xl_0, xl_1, xl_2, xl_3, xl_4, xl_5, xl_6, xl_7, xl_8, xl_9, xl_10, xl_15, xl_18, xl_24, xl_31, xl_32, xl_36, xl_40, xl_48, xl_63, xl_64, xl_144, xl_250, xl_320, xl_720, xl_721, xl_1000, xl_1023, xl_1024, xv_lt, xv_eq, xv_in, xv_clamp, xv_add, xv_mul, xv_dec, xv_div, xv_mod, xv_m1, xv_m1', xv_and, xv_or, xv_shl, xv_shr, xv_bit0, xv_bit1, hn, hi, i6, hv, if_true]
      simp only [Nat.one_mul]
      exact KK
    · refine g_X6_unlikePoured_4 (by decide) ?_
      rw [hn, if_neg (fun q => absurd ((xv_lt (by omega) (by omega)).mp q) (Nat.lt_irrefl _)), f_bitCount (aBits_lt _ (fun i hi => hA.2.2.1 i (by omega)))]
      exact ⟨rfl, rfl⟩
  exact key 0 (Nat.zero_le _)
theorem eq_no {a : Int32} {k : Nat} (hk : k < 2147483648) (h : a.toInt ≠ (k : Int)) : ¬ a = Int32.ofNat k := fun q => h (by rw [q, xv_int hk])
theorem pr_status (a1 : Int32) : xPq 176 298 [.int a1] := by
  intro c A I L z hc h
  have hA := h.1.1
  have h6 := hA.1.2
  obtain ⟨t, t1, t2⟩ := h.2.2.2.2
  have okX : ∀ v, oX c A I L z 0 v (some (.int v)) (xS I L z) := fun v => oX_ok (xsm_refl _ _) h.2.2.2.1 t2 (by omega)
  have okM : ∀ (J : xI) (v : Int32), oM J L z 0 v (some (.int v)) (xS J L z) := fun J v => oM_ok (xsm_refl _ _)
  by_cases e0 : a1 = 0
  · subst e0
    refine pr_q h 0 (Int32.ofNat (ab_n A)) (c_X8_status (d := 29) (g_X8_status_0 (by decide) ?_)) (fun J hJ hM => c_X9_status (d := 29) (g_X9_status_0 (by decide) ?_))
    · rw [if_pos rfl, h.1.2.1.1.1]; exact okX _
    · rw [if_pos rfl, hM.1.1]; exact okM _ _
  by_cases e1 : a1 = 1
  · subst e1
    refine pr_q h 0 (Int32.ofNat (ab_law A)) (c_X8_status (d := 29) (g_X8_status_0 (by decide) ?_)) (fun J hJ hM => c_X9_status (d := 29) (g_X9_status_0 (by decide) ?_))
    · rw [if_neg (by decide), if_pos rfl, h.1.2.1.1.2.1]; exact okX _
    · rw [if_neg (by decide), if_pos rfl, hM.1.2.1]; exact okM _ _
  by_cases e2 : a1 = 2
  · subst e2
    refine pr_q h 0 (Int32.ofNat (ab_tell A).length) (c_X8_status (d := 29) (g_X8_status_0 (by decide) ?_)) (fun J hJ hM => c_X9_status (d := 29) (g_X9_status_0 (by decide) ?_))
    · rw [if_neg (by decide), if_neg (by decide), if_pos rfl, h.1.2.1.1.2.2.2.2]; exact okX _
    · rw [if_neg (by decide), if_neg (by decide), if_pos rfl, hM.1.2.2.2]; exact okM _ _
  by_cases e3 : a1 = 3
  · subst e3
    refine pr_q h 0 (Int32.ofNat (ab_sign A).length) (c_X8_status (d := 29) (g_X8_status_0 (by decide) ?_)) (fun J hJ hM => c_X9_status (d := 29) (g_X9_status_0 (by decide) ?_))
    · rw [if_neg (by decide), if_neg (by decide), if_neg (by decide), if_pos rfl, h.1.2.1.1.2.2.2.1]; exact okX _
    · rw [if_neg (by decide), if_neg (by decide), if_neg (by decide), if_pos rfl]
      refine xuse (t_signsMany hA hM) (by decide) ?_
      rintro _ _ ⟨rfl, rfl⟩
      exact g_X9_status_67 (by decide) (okM _ _)
  by_cases e4 : a1 = 4
  · subst e4
    refine pr_q h 0 (Int32.ofNat (pcn (aBits (ab_pour A) (ab_n A)) 6)) (c_X8_status (d := 29) (g_X8_status_0 (by decide) ?_)) (fun J hJ hM => c_X9_status (d := 29) (g_X9_status_0 (by decide) ?_))
    · rw [if_neg (by decide), if_neg (by decide), if_neg (by decide), if_neg (by decide), if_pos rfl]
      refine xuse (t_unlike hA h.1.2.1) (by decide) ?_
      rintro _ _ ⟨rfl, rfl⟩
      exact g_X8_status_87 (by decide) (okX _)
    · rw [if_neg (by decide), if_neg (by decide), if_neg (by decide), if_neg (by decide), if_pos rfl]
      have hn := hM.1.1
      have key : ∀ i, i ≤ ab_n A → h_X9_status_70 29 (oM J L z 0 (Int32.ofNat (pcn (aBits (ab_pour A) (ab_n A)) 6))) (0, 0) J L z 4 (Int32.ofNat (aBits (ab_pour A) i)) (Int32.ofNat i) := by
        refine xcount _ (ab_n A) ?_ ?_
        · intro i hi KK
          refine g_X9_status_70 (by decide) ?_
          have i6 : i < 6 := by omega
          have hv : J 83 i = Int32.ofNat (ab_pour A i) := hM.2.1 i i6
          have h5 := hA.2.2.1 i i6
          simp (disch := omega) only [xl_0, xl_1, xl_2, xl_3, xl_4, xl_5, xl_6, xl_7, xl_8, xl_9, xl_10, xl_15, xl_18, xl_24, xl_31, xl_32, xl_36, xl_40, xl_48, xl_63, xl_64, xl_144, xl_250, xl_320, xl_720, xl_721, xl_1000, xl_1023, xl_1024, xv_lt, xv_eq, xv_in, xv_clamp, xv_add, xv_mul, xv_dec, xv_div, xv_mod, xv_m1, xv_m1', xv_and, xv_or, xv_shl, xv_shr, xv_bit0, xv_bit1, hn, hi, i6, hv, if_true]
          simp only [Nat.one_mul]
          exact KK
        · refine g_X9_status_70 (by decide) ?_
          rw [hn, if_neg (fun q => absurd ((xv_lt (by omega) (by omega)).mp q) (Nat.lt_irrefl _))]
          refine xuse (t_bits (n := 6) (by decide) (aBits_lt _ (fun i hi => hA.2.2.1 i (by omega)))) (by decide) ?_
          rintro _ _ ⟨rfl, rfl⟩
          exact g_X9_status_99 (by decide) (okM _ _)
      exact key 0 (Nat.zero_le _)
  by_cases e5 : a1 = 5
  · subst e5
    obtain ⟨n, _, n1, n2, _⟩ := h.1.2.2.2.2.2.1
    refine pr_q h 0 (Int32.ofNat n) (c_X8_status (d := 29) (g_X8_status_0 (by decide) ?_)) (fun J hJ hM => c_X9_status (d := 29) (g_X9_status_0 (by decide) ?_))
    · rw [if_neg (by decide), if_neg (by decide), if_neg (by decide), if_neg (by decide), if_neg (by decide), if_pos rfl, n1]; exact okX _
    · rw [if_neg (by decide), if_neg (by decide), if_neg (by decide), if_neg (by decide), if_neg (by decide), if_pos rfl, hJ 66 7 (by unfold scrXr scrX; omega), n2]; exact okM _ _
  by_cases e6 : a1 = 6
  · subst e6
    refine pr_q h 0 (ab_seed A) (c_X8_status (d := 29) (g_X8_status_0 (by decide) ?_)) (fun J hJ hM => c_X9_status (d := 29) (g_X9_status_0 (by decide) ?_))
    · rw [if_neg (by decide), if_neg (by decide), if_neg (by decide), if_neg (by decide), if_neg (by decide), if_neg (by decide), if_pos rfl, h.1.2.1.1.2.2.1]; exact okX _
    · rw [if_neg (by decide), if_neg (by decide), if_neg (by decide), if_neg (by decide), if_neg (by decide), if_neg (by decide), if_pos rfl, hM.1.2.2.1]; exact okM _ _
  by_cases e7 : a1 = 7
  · subst e7
    let f : Nat → Nat := fun s => if I 58 s = -1 then 0 else 1
    have fs : ∀ s, fcnt f 1 (s + 1) = fcnt f 1 s + (if I 58 s = -1 then 0 else 1) := by
      intro s
      show fcnt f 1 s + (if f s = 1 then 1 else 0) = _
      by_cases q : I 58 s = -1
      · rw [if_pos q, show f s = 0 from if_pos q]; rfl
      · rw [if_neg q, show f s = 1 from if_neg q]; rfl
    refine pr_q h 0 (Int32.ofNat (fcnt f 1 8)) (c_X8_status (d := 29) (g_X8_status_0 (by decide) ?_)) (fun J hJ hM => c_X9_status (d := 29) (g_X9_status_0 (by decide) ?_))
    · rw [if_neg (by decide), if_neg (by decide), if_neg (by decide), if_neg (by decide), if_neg (by decide), if_neg (by decide), if_neg (by decide), if_pos rfl]
      have key : ∀ s, s ≤ 8 → h_X2_howManyHold_4 0 (qP I L z (Int32.ofNat (fcnt f 1 8))) (0, 0) I L z (Int32.ofNat (fcnt f 1 s)) (Int32.ofNat s) := by
        refine xcount _ 8 ?_ ?_
        · intro s hs KK
          refine g_X2_howManyHold_4 (by decide) ?_
          rw [if_pos (show Int32.ofNat s < (8 : Int32) from (xv_lt (b := 8) (by omega) (by decide)).mpr hs), if_pos ((xv_in (by omega)).mpr hs), xv_clamp (by omega), show Int32.ofNat s + 1 = Int32.ofNat (s + 1) from xv_add s 1, show Int32.ofNat (fcnt f 1 s) + 1 = Int32.ofNat (fcnt f 1 s + 1) from xv_add _ 1]
          rw [fs s] at KK
          by_cases q : I 58 s = -1
          · rw [if_pos q] at KK ⊢; exact KK
          · rw [if_neg q] at KK ⊢; exact KK
        · refine g_X2_howManyHold_4 (by decide) ?_
          rw [if_neg (by decide)]
          exact ⟨rfl, rfl⟩
      refine xuse (c_X2_howManyHold (d := 0) (g_X2_howManyHold_0 (by decide) (key 0 (by decide)))) (by decide) ?_
      rintro _ _ ⟨rfl, rfl⟩
      exact g_X8_status_111 (by decide) (okX _)
    · rw [if_neg (by decide), if_neg (by decide), if_neg (by decide), if_neg (by decide), if_neg (by decide), if_neg (by decide), if_neg (by decide), if_pos rfl]
      have key : ∀ s, s ≤ 8 → h_X9_status_112 29 (oM J L z 0 (Int32.ofNat (fcnt f 1 8))) (0, 0) J L z 7 (Int32.ofNat (fcnt f 1 s)) (Int32.ofNat s) := by
        refine xcount _ 8 ?_ ?_
        · intro s hs KK
          refine g_X9_status_112 (by decide) ?_
          rw [if_pos (show Int32.ofNat s < (8 : Int32) from (xv_lt (b := 8) (by omega) (by decide)).mpr hs), if_pos ((xv_in (by omega)).mpr hs), xv_clamp (by omega), show Int32.ofNat s + 1 = Int32.ofNat (s + 1) from xv_add s 1, show Int32.ofNat (fcnt f 1 s) + 1 = Int32.ofNat (fcnt f 1 s + 1) from xv_add _ 1, show Int32.ofNat (fcnt f 1 s) + 0 = Int32.ofNat (fcnt f 1 s) from xv_add _ 0, hJ 67 s (by unfold scrXr scrX; omega)]
          rw [fs s] at KK
          have q : I 67 s = 0 ↔ I 58 s = -1 := by
            rcases h.1.2.2.2.1 s hs with ⟨g1, g2⟩ | ⟨v, n, b1, b2, g1, g2, g3, _⟩ | ⟨t, b1, b2, g1, g2, g3⟩
            · rw [g1, g2]; exact ⟨fun _ => rfl, fun _ => rfl⟩
            · rw [g1, g3, show (-1 : Int32) = -(Int32.ofNat 1) from rfl, xv_m1 (by omega) (by decide) (by decide)]
              exact ⟨fun x => absurd x (by decide), fun x => x.elim⟩
            · rw [g1, g2, show (-1 : Int32) = -(Int32.ofNat 1) from rfl, xv_m1 (by omega) (by decide) (by decide)]
              exact ⟨fun x => absurd x (by decide), fun x => x.elim⟩
          by_cases r : I 58 s = -1
          · rw [if_pos (q.mpr r)]
            rw [if_pos r] at KK; exact KK
          · rw [if_neg (fun x => r (q.mp x))]
            rw [if_neg r] at KK; exact KK
        · refine g_X9_status_112 (by decide) ?_
          rw [if_neg (by decide)]
          exact okM _ _
      exact key 0 (by decide)
  have t12 : (12 : Int32).toInt = 12 := rfl
  have t17 : (17 : Int32).toInt = 17 := rfl
  by_cases e8 : 12 ≤ a1.toInt ∧ a1.toInt ≤ 16
  · obtain ⟨n, hn, rfl⟩ := xr_nat (a := a1) (m := 17) (by omega)
    rw [xv_int (by omega)] at e8
    have e12 : Int32.ofNat n - 12 = Int32.ofNat (n - 12) := xv_sub (b := 12) (by omega)
    have e10 : Int32.ofNat n - 10 = Int32.ofNat (n - 10) := xv_sub (b := 10) (by omega)
    refine pr_q h 0 (I 65 (n - 12)) (c_X8_status (d := 29) (g_X8_status_0 (by decide) ?_)) (fun J hJ hM => c_X9_status (d := 29) (g_X9_status_0 (by decide) ?_))
    · rw [if_neg e0, if_neg e1, if_neg e2, if_neg e3, if_neg e4, if_neg e5, if_neg e6, if_neg e7, if_neg (by rw [Int32.lt_iff_toInt_lt, t12, xv_int (by omega)]; omega), if_pos (by rw [Int32.lt_iff_toInt_lt, t17, xv_int (by omega)]; omega), e12, if_pos ((xv_in (by omega)).mpr (by omega)), xv_clamp (by omega)]
      exact okX _
    · rw [if_neg e0, if_neg e1, if_neg e2, if_neg e3, if_neg e4, if_neg e5, if_neg e6, if_neg e7, if_pos ((xp_in (by decide) (by decide)).mpr (by rw [xv_int (by omega)]; omega)), e10, if_pos ((xv_in (by omega)).mpr (by omega)), xv_clamp (by omega), hJ 82 _ (by unfold scrXr scrX; omega)]
      have q := h.1.2.2.2.2.1 (n - 12) (by omega)
      rw [show n - 12 + 2 = n - 10 from by omega] at q
      rw [← q]
      exact okM _ _
  · refine pr_q h 0 (-1) (c_X8_status (d := 29) (g_X8_status_0 (by decide) ?_)) (fun J hJ hM => c_X9_status (d := 29) (g_X9_status_0 (by decide) ?_))
    · rw [if_neg e0, if_neg e1, if_neg e2, if_neg e3, if_neg e4, if_neg e5, if_neg e6, if_neg e7]
      by_cases r : a1 < 12
      · rw [if_pos r]; exact okX _
      · rw [if_neg r, if_neg (fun q => by rw [Int32.lt_iff_toInt_lt] at q r; omega)]; exact okX _
    · rw [if_neg e0, if_neg e1, if_neg e2, if_neg e3, if_neg e4, if_neg e5, if_neg e6, if_neg e7, if_neg (fun q => e8 (by have := (xp_in (by decide) (by decide)).mp q; omega))]
      exact okM _ _
