theorem fcnt_pos {f : Nat → Nat} {s : Nat} : ∀ n, 0 < fcnt f s n ↔ ∃ i, i < n ∧ f i = s
  | 0 => by simp [fcnt]
  | n + 1 => by
    have ih := fcnt_pos (f := f) (s := s) n
    simp only [fcnt]
    by_cases e : f n = s
    · rw [if_pos e]
      exact ⟨fun _ => ⟨n, by omega, e⟩, fun _ => by omega⟩
    · rw [if_neg e, Nat.add_zero, ih]
      constructor
      · rintro ⟨i, a, b⟩; exact ⟨i, by omega, b⟩
      · rintro ⟨i, a, b⟩
        by_cases c : i = n
        · subst c; exact absurd b e
        · exact ⟨i, by omega, b⟩
theorem fcnt_one {f : Nat → Nat} {p : Nat} : ∀ n, p < n → (fcnt f (f p) n = 1 ↔ ∀ q, q < n → q = p ∨ f q ≠ f p)
  | 0, h => absurd h (Nat.not_lt_zero _)
  | n + 1, h => by
    simp only [fcnt]
    by_cases c : n = p
    · subst c
      rw [if_pos rfl]
      have := fcnt_pos (f := f) (s := f n) n
      constructor
      · intro k q hq
        by_cases d : q = n
        · exact Or.inl d
        · right
          intro e
          have : 0 < fcnt f (f n) n := this.mpr ⟨q, by omega, e⟩
          omega
      · intro k
        have : ¬ 0 < fcnt f (f n) n := fun x => by
          obtain ⟨i, a, b⟩ := this.mp x
          rcases k i (by omega) with d | d
          · omega
          · exact d b
        omega
    · have ih := fcnt_one (f := f) (p := p) n (by omega)
      have pos : 0 < fcnt f (f p) n := (fcnt_pos n).mpr ⟨p, by omega, rfl⟩
      by_cases e : f n = f p
      · rw [if_pos e]
        constructor
        · intro k; omega
        · intro k
          rcases k n (by omega) with d | d
          · omega
          · exact absurd e d
      · rw [if_neg e, Nat.add_zero, ih]
        constructor
        · intro k q hq
          by_cases d : q = n
          · right; rw [d]; exact e
          · exact k q (by omega)
        · exact fun k q hq => k q (by omega)
theorem odd_iff {A : xAb} (hA : abOK A) {w p : Nat} (hw : w ∈ aW A) (hp : p < ab_n A) : (∀ q, q < ab_n A → q = p ∨ wd w q ≠ wd w p) ↔ aC A (wd w p) = 1 := by
  have h6 := hA.1.2
  obtain ⟨f, a, rfl, b⟩ := aW_row hA hw
  have f8 : ∀ i, i < ab_n A → f i < 8 := fun i hi => by have := a i hi; omega
  have e : ∀ q, q < ab_n A → wd (wc f (ab_n A)) q = f q := fun q hq => by rw [wd_wc h6 f8 (by omega), if_pos hq]
  rw [e p hp, ← b (f p) (a p hp), fcnt_one _ hp]
  constructor
  · intro k q hq
    have := k q hq
    rw [e q hq] at this
    exact this
  · intro k q hq
    rw [e q hq]
    exact k q hq
theorem pr_odd (a1 : Int32) : xPq 166 284 [.int a1] := by
  intro c A I L z hc h
  have hA := h.1.1
  have h6 := hA.1.2
  have hl := aP_len hA
  have x1 : p_X6_hasPlace I L a1 ↔ (0 ≤ a1.toInt ∧ a1.toInt < (ab_n A : Int)) := xp_hasPlace h.1.2.1.1.1 hA.1.2
  have m1 : ∀ J : xI, xTM J 66 A → (p_X9_isPlace J L (Int32.toInt64 a1) ↔ (0 ≤ a1.toInt ∧ a1.toInt < (ab_n A : Int))) := fun J q => xp_isPlace q.1.1 hA.1.1 hA.1.2
  by_cases e : 0 ≤ a1.toInt ∧ a1.toInt < (ab_n A : Int)
  · obtain ⟨p, hp, rfl⟩ := xr_nat e
    refine pr_q h 0 (Int32.ofNat (aOdd A p)) ?_ ?_
    · refine c_X8_odd (d := 29) (g_X8_odd_0 (by decide) ?_)
      rw [if_pos (x1.mpr e)]
      refine u_refresh h (by decide) ?_
      intro J t hJ hF hX hs ha t1 t2
      refine g_X8_odd_25 (by decide) ?_
      refine xuse (t_oddX hA hX hF.2.2.2 (by omega)) (by decide) ?_
      rintro _ _ ⟨rfl, rfl⟩
      exact g_X8_odd_33 (by decide) (oX_ok (xsm_mono hJ scrW_X) (xCache_of hF) t2 (by omega))
    · intro J hJ hM
      refine c_X9_odd (d := 29) (g_X9_odd_0 (by decide) ?_)
      rw [if_pos ((m1 J hM).mpr e)]
      refine u_findP hA hM (by decide) ?_
      intro K hK hR hM'
      refine g_X9_odd_20 (by decide) ?_
      have nn := hM'.1.1
      have eo : aOdd A p = (aP A).countP (fun w => decide (aC A (wd w p) = 1)) := by
        have q := cp_split (l := aP A) (d := fun w => wd w p) (Q := fun s => decide (aC A s = 1)) (fun w hw => (aW_wd hA (aP_mem.mp hw).1 (by omega)).1)
        rw [q]
        unfold aOdd
        refine sum6_congr 6 fun s _ => ?_
        unfold aSt
        rw [if_pos hp]
        by_cases d : aC A s = 1
        · rw [if_pos d, if_pos (decide_eq_true d)]
        · rw [if_neg d, if_neg (by rw [decide_eq_false d]; decide)]
      rw [eo]
      have key : ∀ i, i ≤ (aP A).length → h_X9_odd_24 29 (oM J L z 0 (Int32.ofNat ((aP A).countP (fun w => decide (aC A (wd w p) = 1))))) (0, 0) K L z (Int32.ofNat p) (Int32.ofNat (((aP A).take i).countP (fun w => decide (aC A (wd w p) = 1)))) (Int32.ofNat i) := by
        refine xcount _ (aP A).length ?_ ?_
        · intro i hi KK
          refine g_X9_odd_24 (by decide) ?_
          rw [hR.2.1, if_pos ((xv_lt (by omega) (by omega)).mpr hi)]
          have i7 : i < 720 := by omega
          have hw := (aP_mem.mp (gd_mem hi)).1
          have hio := odd_iff hA hw hp
          rw [cp_snoc hi] at KK
          have key2 : ∀ q, q ≤ ab_n A → ∀ v, v < 2 → (v = 1 ↔ ∀ t, t < q → t = p ∨ wd ((aP A).getD i 0) t ≠ wd ((aP A).getD i 0) p) → h_X9_odd_38 29 (oM J L z 0 (Int32.ofNat ((aP A).countP (fun w => decide (aC A (wd w p) = 1))))) (0, 0) K L z (Int32.ofNat p) (Int32.ofNat (((aP A).take i).countP (fun w => decide (aC A (wd w p) = 1)))) (Int32.ofNat i) (Int32.ofNat v) (Int32.ofNat q) := by
            refine xcount _ (ab_n A) ?_ ?_
            · intro q hq K2 v hv2 hv
              refine g_X9_odd_38 (by decide) ?_
              obtain ⟨x, y1, y2, y3, y4⟩ := xRef_at hA hR hi hq
              obtain ⟨x', z1, z2, z3, z4⟩ := xRef_at hA hR hi hp
              have xx : x = x' := (xv_eq (by omega) (by omega)).mp (y2.symm.trans z2)
              subst xx
              have s6 := aP_wd hA hi (show q < 6 by omega)
              have s6' := aP_wd hA hi (show p < 6 by omega)
              have v1 : v &&& 1 = v := by rw [Nat.and_one_is_mod]; omega
              simp (disch := omega) only [xl_0, xl_1, xl_2, xl_3, xl_4, xl_5, xl_6, xl_7, xl_8, xl_9, xl_10, xl_15, xl_18, xl_24, xl_31, xl_32, xl_36, xl_40, xl_48, xl_63, xl_64, xl_144, xl_250, xl_320, xl_720, xl_721, xl_1000, xl_1023, xl_1024, xv_lt, xv_eq, xv_in, xv_clamp, xv_add, xv_mul, xv_dec, xv_div, xv_mod, xv_m1, xv_m1', xv_and, xv_or, xv_shl, xv_shr, xv_bit0, xv_bit1, nn, hq, i7, y2, y3, y4, z3, z4, v1, Nat.and_zero, if_true]
              by_cases d : q = p
              · rw [if_pos d]
                refine K2 v hv2 (hv.trans ⟨fun k t ht => ?_, fun k t ht => k t (by omega)⟩)
                by_cases d2 : t = q
                · exact Or.inl (d2.trans d)
                · exact k t (by omega)
              · rw [if_neg d]
                by_cases d2 : wd ((aP A).getD i 0) q = wd ((aP A).getD i 0) p
                · rw [if_pos d2]
                  refine K2 0 (by decide) ⟨fun x => absurd x (by decide), fun k => ?_⟩
                  rcases k q (by omega) with y | y
                  · exact absurd y d
                  · exact absurd d2 y
                · rw [if_neg d2]
                  refine K2 v hv2 (hv.trans ⟨fun k t ht => ?_, fun k t ht => k t (by omega)⟩)
                  by_cases d3 : t = q
                  · right; rw [d3]; exact d2
                  · exact k t (by omega)
            · intro v hv2 hv
              refine g_X9_odd_38 (by decide) ?_
              rw [nn, if_neg (fun q => Nat.lt_irrefl _ ((xv_lt (by omega) (by omega)).mp q)), show Int32.ofNat i + 1 = Int32.ofNat (i + 1) from xv_add i 1]
              have hv' := hv.trans hio
              by_cases d : aC A (wd ((aP A).getD i 0) p) = 1
              · rw [if_pos (decide_eq_true d)] at KK
                have v1 := hv'.mpr d
                subst v1
                rw [if_neg (by decide), show Int32.ofNat (((aP A).take i).countP (fun w => decide (aC A (wd w p) = 1))) + 1 = Int32.ofNat (((aP A).take i).countP (fun w => decide (aC A (wd w p) = 1)) + 1) from xv_add _ 1]
                exact KK
              · rw [if_neg (by rw [decide_eq_false d]; decide)] at KK
                have v0 : v = 0 := by
                  have : ¬ v = 1 := fun x => d (hv'.mp x)
                  omega
                subst v0
                rw [if_pos (show Int32.ofNat 0 = (0 : Int32) from rfl)]
                rw [Int32.add_zero]
                exact KK
          exact key2 0 (by omega) 1 (by decide) ⟨fun _ t ht => absurd ht (Nat.not_lt_zero _), fun _ => rfl⟩
        · refine g_X9_odd_24 (by decide) ?_
          rw [hR.2.1, if_neg (fun q => Nat.lt_irrefl _ ((xv_lt (by omega) (by omega)).mp q)), List.take_length]
          exact oM_ok (xsm_mono hK scrF_M)
      exact key 0 (Nat.zero_le _)
  · refine pr_q h 2 0 ?_ ?_
    · refine c_X8_odd (d := 29) (g_X8_odd_0 (by decide) ?_)
      rw [if_neg (fun x => e (x1.mp x))]
      exact oX_no h (by decide) (by decide)
    · intro J hJ hM
      refine c_X9_odd (d := 29) (g_X9_odd_0 (by decide) ?_)
      rw [if_neg (fun x => e ((m1 J hM).mp x))]
      exact oM_no (xsm_refl _ _) (by decide) (by decide)
theorem pr_likely (a1 a2 : Int32) : xPq 154 249 [.int a1, .int a2] := by
  intro c A I L z hc h
  have hA := h.1.1
  have h6 := hA.1.2
  have hl := aP_len hA
  have x1 : p_X6_hasPlace I L a1 ↔ (0 ≤ a1.toInt ∧ a1.toInt < (ab_n A : Int)) := xp_hasPlace h.1.2.1.1.1 hA.1.2
  have x2 : p_X8_isEither I L a2 ↔ (0 ≤ a2.toInt ∧ a2.toInt < (2 : Nat)) := xi_either
  have m1 : ∀ J : xI, xTM J 66 A → (p_X9_isPlace J L (Int32.toInt64 a1) ↔ (0 ≤ a1.toInt ∧ a1.toInt < (ab_n A : Int))) := fun J q => xp_isPlace q.1.1 hA.1.1 hA.1.2
  have m2 : ∀ J : xI, p_X9_in J L (Int32.toInt64 a2) (Int64.ofNat 0) (Int64.ofNat 1) ↔ (0 ≤ a2.toInt ∧ a2.toInt < (2 : Nat)) := fun J => xm_in (by decide) (by decide)
  by_cases e : (0 ≤ a1.toInt ∧ a1.toInt < (ab_n A : Int)) ∧ (0 ≤ a2.toInt ∧ a2.toInt < (2 : Nat))
  · obtain ⟨p, hp, rfl⟩ := xr_nat e.1
    by_cases q : (aP A).length = 0
    · refine pr_q h 5 0 ?_ ?_
      · refine c_X8_likely (d := 29) (g_X8_likely_0 (by decide) ?_)
        rw [if_pos (x1.mpr e.1), if_pos (x2.mpr e.2)]
        refine u_refresh h (by decide) ?_
        intro J t hJ hF hX hs ha t1 t2
        refine g_X8_likely_32 (by decide) ?_
        rw [hF.2.2.2.1, q, if_neg (show ¬ (0 : Int32) < Int32.ofNat 0 by decide)]
        exact oX_no2 (xsm_mono hJ scrW_X) (xCache_of hF) t2 (by omega) (by decide) (by decide)
      · intro J hJ hM
        refine c_X9_likely (d := 29) (g_X9_likely_0 (by decide) ?_)
        rw [if_pos ((m1 J hM).mpr e.1), if_pos ((m2 J).mpr e.2)]
        refine u_findP hA hM (by decide) ?_
        intro K hK hR hM'
        refine g_X9_likely_30 (by decide) ?_
        rw [hR.2.1, q, if_pos (show Int32.ofNat 0 = (0 : Int32) from rfl)]
        exact oM_no (xsm_mono hK scrF_M) (by decide) (by decide)
    · have q0 : ¬ Int32.ofNat (aP A).length = (0 : Int32) := fun x => q ((xv_eq (b := 0) (by omega) (by decide)).mp x)
      have q1 : (0 : Int32) < Int32.ofNat (aP A).length := (xv_lt (a := 0) (by decide) (by omega)).mpr (by omega)
      refine pr_q h 0 (if a2 = 0 then Int32.ofNat (aLk A p 6) else (1000 * Int32.ofNat (aSt A p (aLk A p 6))) / Int32.ofNat (aP A).length) ?_ ?_
      · refine c_X8_likely (d := 29) (g_X8_likely_0 (by decide) ?_)
        rw [if_pos (x1.mpr e.1), if_pos (x2.mpr e.2)]
        refine u_refresh h (by decide) ?_
        intro J t hJ hF hX hs ha t1 t2
        refine g_X8_likely_32 (by decide) ?_
        rw [hF.2.2.2.1, if_pos q1]
        refine xuse (t_likeliestX hA hF.2.2.2 (by omega)) (by decide) ?_
        rintro _ _ ⟨rfl, rfl⟩
        refine g_X8_likely_57 (by decide) ?_
        have k6 := aLk_lt A p 6 (by decide)
        rw [hF.2.2.2.1, f_stand hF.2.2.2 (by omega) (by omega)]
        by_cases d : a2 = 0
        · rw [if_pos d, if_pos d]; exact oX_ok (xsm_mono hJ scrW_X) (xCache_of hF) t2 (by omega)
        · rw [if_neg d, if_neg d, if_neg q0]; exact oX_ok (xsm_mono hJ scrW_X) (xCache_of hF) t2 (by omega)
      · intro J hJ hM
        refine c_X9_likely (d := 29) (g_X9_likely_0 (by decide) ?_)
        rw [if_pos ((m1 J hM).mpr e.1), if_pos ((m2 J).mpr e.2)]
        refine u_findP hA hM (by decide) ?_
        intro K hK hR hM'
        refine g_X9_likely_30 (by decide) ?_
        rw [hR.2.1, if_neg q0]
        obtain ⟨V, hV⟩ : ∃ V, V = (if a2 = 0 then Int32.ofNat (aLk A p 6) else (1000 * Int32.ofNat (aSt A p (aLk A p 6))) / Int32.ofNat (aP A).length) := ⟨_, rfl⟩
        rw [← hV]
        have key : ∀ s, s ≤ 6 → ∀ v, (s = 0 → v = 0) → (0 < s → v = aSt A p (aLk A p s)) → h_X9_likely_52 29 (oM J L z 0 V) (0, 0) K L z (Int32.ofNat p) a2 (Int32.ofNat (aLk A p s)) (Int32.ofNat v) (Int32.ofNat s) := by
          refine xcount _ 6 ?_ ?_
          · intro s hs KK v v0 v1
            refine g_X9_likely_52 (by decide) ?_
            rw [if_pos (show Int32.ofNat s < (6 : Int32) from (xv_lt (b := 6) (by omega) (by decide)).mpr hs)]
            have key2 : ∀ i, i ≤ (aP A).length → h_X9_likely_65 29 (oM J L z 0 V) (0, 0) K L z (Int32.ofNat p) a2 (Int32.ofNat (aLk A p s)) (Int32.ofNat v) (Int32.ofNat s) (Int32.ofNat (((aP A).take i).countP (fun w => decide (wd w p = s)))) (Int32.ofNat i) := by
              refine xcount _ (aP A).length ?_ ?_
              · intro i hi K2
                refine g_X9_likely_65 (by decide) ?_
                obtain ⟨x, y1, y2, y3, y4⟩ := xRef_at hA hR hi hp
                have i7 : i < 720 := by omega
                have s6 := aP_wd hA hi (show p < 6 by omega)
                rw [cp_snoc hi] at K2
                simp (disch := omega) only [xl_0, xl_1, xl_2, xl_3, xl_4, xl_5, xl_6, xl_7, xl_8, xl_9, xl_10, xl_15, xl_18, xl_24, xl_31, xl_32, xl_36, xl_40, xl_48, xl_63, xl_64, xl_144, xl_250, xl_320, xl_720, xl_721, xl_1000, xl_1023, xl_1024, xv_lt, xv_eq, xv_in, xv_clamp, xv_add, xv_mul, xv_dec, xv_div, xv_mod, xv_m1, xv_m1', xv_and, xv_or, xv_shl, xv_shr, xv_bit0, xv_bit1, hR.2.1, hi, i7, y2, y3, y4, if_true]
                by_cases d : wd ((aP A).getD i 0) p = s
                · rw [if_pos d]
                  rw [if_pos (decide_eq_true d)] at K2
                  exact K2
                · rw [if_neg d]
                  rw [if_neg (by rw [decide_eq_false d]; decide)] at K2
                  exact K2
              · refine g_X9_likely_65 (by decide) ?_
                rw [hR.2.1, if_neg (fun q => Nat.lt_irrefl _ ((xv_lt (by omega) (by omega)).mp q)), List.take_length, show Int32.ofNat s + 1 = Int32.ofNat (s + 1) from xv_add s 1]
                have es : (aP A).countP (fun w => decide (wd w p = s)) = aSt A p s := by unfold aSt; rw [if_pos hp]
                rw [es]
                have b1 := aSt_le A p s
                have b2 := aSt_le A p (aLk A p s)
                have vb : v ≤ (aP A).length := by
                  by_cases d : s = 0
                  · rw [v0 d]; omega
                  · rw [v1 (by omega)]; exact b2
                have es1 : aLk A p (s + 1) = if aSt A p (aLk A p s) < aSt A p s then s else aLk A p s := rfl
                by_cases d : s = 0
                · have ev := v0 d
                  subst d
                  subst ev
                  have ek : aLk A p 0 = 0 := rfl
                  have e10 : aLk A p (0 + 1) = 0 := by
                    show (if aSt A p 0 < aSt A p 0 then 0 else 0) = 0
                    split <;> rfl
                  rw [e10] at KK
                  by_cases d2 : 0 < aSt A p 0
                  · rw [if_pos ((xv_lt (by omega) (by omega)).mpr d2)]
                    exact KK _ (fun x => absurd x (by decide)) (fun _ => rfl)
                  · rw [if_neg (fun x => d2 ((xv_lt (by omega) (by omega)).mp x)), ek]
                    exact KK _ (fun x => absurd x (by decide)) (fun _ => by omega)
                · have ev := v1 (by omega)
                  subst ev
                  by_cases d2 : aSt A p (aLk A p s) < aSt A p s
                  · rw [if_pos ((xv_lt (by omega) (by omega)).mpr d2)]
                    rw [es1, if_pos d2] at KK
                    exact KK _ (fun x => absurd x (by omega)) (fun _ => rfl)
                  · rw [if_neg (fun x => d2 ((xv_lt (by omega) (by omega)).mp x))]
                    rw [es1, if_neg d2] at KK
                    exact KK _ (fun x => absurd x (by omega)) (fun _ => rfl)
            exact key2 0 (Nat.zero_le _)
          · intro v v0 v1
            refine g_X9_likely_52 (by decide) ?_
            rw [if_neg (by decide), hR.2.1, v1 (by decide), hV]
            by_cases d : a2 = 0
            · rw [if_pos d, if_pos d]; exact oM_ok (xsm_mono hK scrF_M)
            · rw [if_neg d, if_neg d, if_neg q0]; exact oM_ok (xsm_mono hK scrF_M)
        exact key 0 (by decide) 0 (fun _ => rfl) (fun x => absurd x (by decide))
  · refine pr_q h 2 0 ?_ ?_
    · refine c_X8_likely (d := 29) (g_X8_likely_0 (by decide) ?_)
      simp only [x1, x2]
      (repeat' split) <;> first | exact oX_no h (by decide) (by decide) | (exfalso; omega)
    · intro J hJ hM
      refine c_X9_likely (d := 29) (g_X9_likely_0 (by decide) ?_)
      simp only [m1 J hM, m2 J]
      (repeat' split) <;> first | exact oM_no (xsm_refl _ _) (by decide) (by decide) | (exfalso; omega)
