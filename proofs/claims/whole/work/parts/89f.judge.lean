/-! promises: judge -/
def hok (n : Nat) (pl : Nat → Nat) (i : Nat) : Bool := decide (pl i < n ∧ ∀ j, j < i → pl j ≠ pl i)
def wrA (n : Nat) (pl : Nat → Nat) (i : Nat) : Int32 := fstP (fun i => !(hok n pl i)) (n - i) i
theorem wrA_at {n i : Nat} {pl : Nat → Nat} (h : i < n) : wrA n pl i = if hok n pl i = true then wrA n pl (i + 1) else Int32.ofNat i := by
  unfold wrA
  rw [show n - i = (n - (i + 1)) + 1 from by omega]
  show (if (!(hok n pl i)) = true then Int32.ofNat i else _) = _
  by_cases e : hok n pl i = true
  · rw [if_pos e, if_neg (by rw [e]; decide)]
  · rw [if_neg e, if_pos (by rw [Bool.not_eq_true] at e; rw [e]; rfl)]
theorem wrA_end {n : Nat} {pl : Nat → Nat} : wrA n pl n = -1 := by
  unfold wrA
  rw [Nat.sub_self]; rfl
theorem wrA_no {n : Nat} {pl : Nat → Nat} (hn : n ≤ 6) : ∀ m i, i + m = n → wrA n pl i = -1 → ∀ j, i ≤ j → j < n → hok n pl j = true
  | 0, i, e, _, j, a, b => by omega
  | m + 1, i, e, h, j, a, b => by
    rw [wrA_at (by omega)] at h
    by_cases d : hok n pl i = true
    · rw [if_pos d] at h
      by_cases c : j = i
      · rw [c]; exact d
      · exact wrA_no hn m (i + 1) (by omega) h j (by omega) b
    · rw [if_neg d, show (-1 : Int32) = -(Int32.ofNat 1) from rfl, xv_m1 (by omega) (by decide) (by decide)] at h
      exact h.elim
theorem hok_iff {n i : Nat} {pl : Nat → Nat} : hok n pl i = true ↔ (pl i < n ∧ (aBits pl i).testBit (pl i) = false) := by
  unfold hok
  rw [decide_eq_true_iff]
  have := aBits_bit (f := pl) (u := pl i) i
  constructor
  · rintro ⟨a, b⟩
    refine ⟨a, ?_⟩
    cases e : (aBits pl i).testBit (pl i)
    · rfl
    · obtain ⟨j, c, d⟩ := this.mp e
      exact absurd d (b j c)
  · rintro ⟨a, b⟩
    refine ⟨a, fun j c d => ?_⟩
    rw [this.mpr ⟨j, c, d⟩] at b
    exact absurd b (by decide)
theorem hok_bits {n i : Nat} {pl : Nat → Nat} (n6 : n ≤ 6) (h : ∀ j, j < i → hok n pl j = true) : aBits pl i < 64 := aBits_lt i (fun j hj => by
  have := (hok_iff.mp (h j hj)).1
  omega)
theorem t_wrongX {n : Nat} {J : xI} {L : xL} {z : Bool × Bool × Nat} {pl : Nat → Nat} (hn : J 10 0 = Int32.ofNat n) (n6 : n ≤ 6) (h64 : ∀ i, i < n → J 64 i = if pl i = 7 then -1 else Int32.ofNat (pl i)) (h8 : ∀ i, pl i < 8) : xCd 2 1 [.ref 50, .ref 64] (xS J L z) (qP J L z (wrA n pl 0)) := by
  refine c_X0_wrongIn (d := 1) (g_X0_wrongIn_0 (by decide) ?_)
  have key : ∀ i, i ≤ n → (∀ j, j < i → hok n pl j = true) → wrA n pl i = wrA n pl 0 → h_X0_wrongIn_4 1 (qP J L z (wrA n pl 0)) (0, 0) J L z 64 (Int32.ofNat (aBits pl i)) (Int32.ofNat i) := by
    refine xcount _ n ?_ ?_
    · intro i hi KK hk hw
      refine g_X0_wrongIn_4 (by decide) ?_
      have hb := hok_bits n6 hk
      have p8 := h8 i
      rw [if_pos (show Int32.ofNat i < J 10 0 by rw [hn]; exact (xv_lt (by omega) (by omega)).mpr hi)]
      refine xbifT (show (xalive (112, bif z.1 then 158 else 112, bif z.2.1 then 204 else 158) 64 && Nat.ble 20 (xkind 64) && !(Nat.beq (xkind 64) 24)) = true from rfl) ?_
      rw [show Int32.ofNat (xlen z.2.2 64) = Int32.ofNat 6 from rfl, if_pos ((xv_lt (by omega) (by omega)).mpr (by omega))]
      refine xbifT (show xisi (xS J L z) 64 = true from rfl) ?_
      rw [show xlen z.2.2 64 = 6 from rfl, if_pos ((xv_in (by omega)).mpr (by omega))]
      simp only [xv_clamp (show i < 2147483648 by omega)]
      rw [wrA_at hi] at hw
      by_cases c : pl i < n
      · have v := h64 i hi
        rw [if_neg (by omega)] at v
        rw [if_pos ((xp_hasPlace hn n6).mpr (by rw [v, xv_int (by omega)]; omega)), v, show Int32.ofNat i + 1 = Int32.ofNat (i + 1) from xv_add i 1]
        have sh : (Int32.ofNat (aBits pl i) >>> (Int32.ofNat (pl i) &&& 31)) &&& 1 = Int32.ofNat (aBits pl i >>> pl i &&& 1) := by
          simp (disch := omega) only [xl_0, xl_1, xl_2, xl_3, xl_4, xl_5, xl_6, xl_7, xl_8, xl_9, xl_10, xl_15, xl_18, xl_24, xl_31, xl_32, xl_36, xl_40, xl_48, xl_63, xl_64, xl_144, xl_250, xl_320, xl_720, xl_721, xl_1000, xl_1023, xl_1024, xv_lt, xv_eq, xv_in, xv_clamp, xv_add, xv_mul, xv_dec, xv_div, xv_mod, xv_m1, xv_m1', xv_and, xv_or, xv_shl, xv_shr, xv_bit0, xv_bit1]
        have sl : (1 : Int32) <<< (Int32.ofNat (pl i) &&& 31) = Int32.ofNat (2 ^ pl i) := by
          simp (disch := omega) only [xl_0, xl_1, xl_2, xl_3, xl_4, xl_5, xl_6, xl_7, xl_8, xl_9, xl_10, xl_15, xl_18, xl_24, xl_31, xl_32, xl_36, xl_40, xl_48, xl_63, xl_64, xl_144, xl_250, xl_320, xl_720, xl_721, xl_1000, xl_1023, xl_1024, xv_lt, xv_eq, xv_in, xv_clamp, xv_add, xv_mul, xv_dec, xv_div, xv_mod, xv_m1, xv_m1', xv_and, xv_or, xv_shl, xv_shr, xv_bit0, xv_bit1, Nat.one_mul]
        rw [sh, sl, xv_or]
        have hb1 := @xv_bit1 (aBits pl i) (pl i)
        cases e : (aBits pl i).testBit (pl i)
        · have hi' : hok n pl i = true := hok_iff.mpr ⟨c, e⟩
          rw [if_pos hi'] at hw
          rw [if_neg (show ¬ Int32.ofNat (aBits pl i >>> pl i &&& 1) = 1 from fun q => by
            have := hb1.mp q
            rw [e] at this
            exact absurd this (by decide))]
          exact KK (fun j hj => by
            by_cases d : j = i
            · rw [d]; exact hi'
            · exact hk j (by omega)) hw
        · have hi' : ¬ hok n pl i = true := fun q => by
            have := (hok_iff.mp q).2
            rw [e] at this
            exact absurd this (by decide)
          rw [if_neg hi'] at hw
          rw [if_pos (show Int32.ofNat (aBits pl i >>> pl i &&& 1) = 1 from hb1.mpr e), hw]
          exact ⟨rfl, rfl⟩
      · have hi' : ¬ hok n pl i = true := fun q => c (hok_iff.mp q).1
        rw [if_neg hi'] at hw
        rw [if_neg (fun q => by
          have q := (xp_hasPlace hn n6).mp q
          rw [h64 i hi] at q
          by_cases d : pl i = 7
          · rw [if_pos d, show ((-1 : Int32)).toInt = -1 from rfl] at q; omega
          · rw [if_neg d, xv_int (by omega)] at q; omega), hw]
        exact ⟨rfl, rfl⟩
    · intro hk hw
      refine g_X0_wrongIn_4 (by decide) ?_
      rw [if_neg (show ¬ Int32.ofNat n < J 10 0 by rw [hn]; exact fun q => absurd ((xv_lt (by omega) (by omega)).mp q) (Nat.lt_irrefl _))]
      rw [wrA_end] at hw
      rw [← hw]
      exact ⟨rfl, rfl⟩
  exact key 0 (Nat.zero_le _) (fun j hj => absurd hj (Nat.not_lt_zero _)) rfl
theorem t_wrongM {n s : Nat} {J : xI} {L : xL} {z : Bool × Bool × Nat} (hs : s < 8) (hn : J 66 9 = Int32.ofNat n) (n2 : 2 ≤ n) (n6 : n ≤ 6) : xCd 3 271 [.ref 66, .ref (70 + 1 + s)] (xS J L z) (qV (xAt 109) J L z (wrA n (fun i => tn (L (71 + s) i)) 0) (fun K => wrA n (fun i => tn (L (71 + s) i)) 0 = -1 → ∀ i, i < n → K 109 i = Int32.ofNat (tn (L (71 + s) i)))) := by
  refine c_X9_wrongIn (d := 2) (g_X9_wrongIn_0 (by decide) ?_)
  have pl8 : ∀ i, tn (L (71 + s) i) < 8 := fun i => by
    rcases tn_cases (L (71 + s) i) with ⟨a, _⟩ | ⟨a, _⟩ <;> omega
  have key : ∀ i, i ≤ n → ∀ K : xI, xsm (xAt 109) J K → (∀ j, j < i → K 109 j = Int32.ofNat (tn (L (71 + s) j))) → (∀ j, j < i → hok n (fun i => tn (L (71 + s) i)) j = true) → wrA n (fun i => tn (L (71 + s) i)) i = wrA n (fun i => tn (L (71 + s) i)) 0 → h_X9_wrongIn_4 2 (qV (xAt 109) J L z (wrA n (fun i => tn (L (71 + s) i)) 0) (fun K => wrA n (fun i => tn (L (71 + s) i)) 0 = -1 → ∀ i, i < n → K 109 i = Int32.ofNat (tn (L (71 + s) i)))) (0, 0) K L z (70 + 1 + s) (Int32.ofNat (aBits (fun i => tn (L (71 + s) i)) i)) (Int32.ofNat i) := by
    refine xcount _ n ?_ ?_
    · intro i hi KK K hK k109 hk hw
      refine g_X9_wrongIn_4 (by decide) ?_
      have kn : K 66 9 = Int32.ofNat n := (hK 66 9 (by unfold xAt; omega)).trans hn
      have hb := hok_bits n6 hk
      have p8 := pl8 i
      have q := xis_shelf (I := K) (L := L) (z := z) hs
      rw [if_pos (show Int32.ofNat i < K 66 9 by rw [kn]; exact (xv_lt (by omega) (by omega)).mpr hi)]
      refine xbifT q.1 ?_
      rw [q.2.2, if_pos ((xv_in (by omega)).mpr (by omega))]
      simp only [xv_clamp (show i < 2147483648 by omega)]
      rw [wrA_at hi] at hw
      have hpl : p_X9_isPlace K L (L (70 + 1 + s) i) ↔ tn (L (71 + s) i) < n := by
        show p_X9_in K L (L (71 + s) i) (Int64.ofNat 0) (Int32.toInt64 (K 66 9 - 1)) ↔ _
        rw [xp_in64, kn, xv_less1 n (by omega), show (Int64.ofNat 0).toInt = 0 from rfl]
        rcases tn_cases (L (71 + s) i) with ⟨a, b⟩ | ⟨a, b, _⟩ <;> omega
      by_cases c : tn (L (71 + s) i) < n
      · rw [if_pos (hpl.mpr c)]
        refine xbifT q.1 ?_
        have tv : Int64.toInt32 (L (70 + 1 + s) i) = Int32.ofNat (tn (L (71 + s) i)) := by
          rcases tn_cases (L (71 + s) i) with ⟨a, b⟩ | ⟨a, b, d⟩
          · omega
          · exact d
        simp only [tv]
        have hh := has_iff (I := K) (L := L) (u := aBits (fun i => tn (L (71 + s) i)) i) (p := tn (L (71 + s) i)) (by omega) (by omega)
        cases e : (aBits (fun i => tn (L (71 + s) i)) i).testBit (tn (L (71 + s) i))
        · have hi' : hok n (fun i => tn (L (71 + s) i)) i = true := hok_iff.mpr ⟨c, e⟩
          rw [if_pos hi'] at hw
          rw [if_neg (fun q => by
            have := hh.mp q
            rw [e] at this
            exact absurd this (by decide))]
          refine xbifT q.1 ?_
          rw [if_pos ((xv_in (by omega)).mpr (by omega)), xw_eq, show Int32.ofNat i + 1 = Int32.ofNat (i + 1) from xv_add i 1]
          have sl : (1 : Int32) <<< (Int32.ofNat (tn (L (71 + s) i)) &&& 31) = Int32.ofNat (2 ^ tn (L (71 + s) i)) := by
            simp (disch := omega) only [xl_0, xl_1, xl_2, xl_3, xl_4, xl_5, xl_6, xl_7, xl_8, xl_9, xl_10, xl_15, xl_18, xl_24, xl_31, xl_32, xl_36, xl_40, xl_48, xl_63, xl_64, xl_144, xl_250, xl_320, xl_720, xl_721, xl_1000, xl_1023, xl_1024, xv_lt, xv_eq, xv_in, xv_clamp, xv_add, xv_mul, xv_dec, xv_div, xv_mod, xv_m1, xv_m1', xv_and, xv_or, xv_shl, xv_shr, xv_bit0, xv_bit1, Nat.one_mul]
          rw [sl, xv_or]
          refine KK _ (xsm_xw rfl hK) ?_ ?_ hw
          · intro j hj
            by_cases d : j = i
            · rw [d, xw_eq]
            · rw [xw_ne2 d]; exact k109 j (by omega)
          · intro j hj
            by_cases d : j = i
            · rw [d]; exact hi'
            · exact hk j (by omega)
        · have hi' : ¬ hok n (fun i => tn (L (71 + s) i)) i = true := fun q => by
            have := (hok_iff.mp q).2
            rw [e] at this
            exact absurd this (by decide)
          rw [if_neg hi'] at hw
          rw [if_pos (hh.mpr e)]
          refine ⟨by rw [hw], K, rfl, hK, fun x => ?_⟩
          rw [← hw, show (-1 : Int32) = -(Int32.ofNat 1) from rfl, xv_m1 (by omega) (by decide) (by decide)] at x
          exact x.elim
      · have hi' : ¬ hok n (fun i => tn (L (71 + s) i)) i = true := fun q => c (hok_iff.mp q).1
        rw [if_neg hi'] at hw
        rw [if_neg (fun q => c (hpl.mp q))]
        refine ⟨by rw [hw], K, rfl, hK, fun x => ?_⟩
        rw [← hw, show (-1 : Int32) = -(Int32.ofNat 1) from rfl, xv_m1 (by omega) (by decide) (by decide)] at x
        exact x.elim
    · intro K hK k109 hk hw
      refine g_X9_wrongIn_4 (by decide) ?_
      have kn : K 66 9 = Int32.ofNat n := (hK 66 9 (by unfold xAt; omega)).trans hn
      rw [if_neg (show ¬ Int32.ofNat n < K 66 9 by rw [kn]; exact fun q => absurd ((xv_lt (by omega) (by omega)).mp q) (Nat.lt_irrefl _))]
      rw [wrA_end] at hw
      exact ⟨by rw [← hw], K, rfl, hK, fun _ => k109⟩
  exact key 0 (Nat.zero_le _) J (xsm_refl _ _) (fun j hj => absurd hj (Nat.not_lt_zero _)) (fun j hj => absurd hj (Nat.not_lt_zero _)) rfl
theorem pr_judge (a1 : Int32) : xPq 161 272 [.int a1] := by
  intro c A I L z hc h
  have hA := h.1.1
  have hn : I 10 0 = Int32.ofNat (ab_n A) := h.1.2.1.1.1
  obtain ⟨t, t1, t2⟩ := h.2.2.2.2
  rcases told_cases h.1 a1 with ⟨k, k2, k4, hk⟩ | ⟨s, m, v, hs, rfl, hv, hm, nm, h58, h59, h67, h69, hrow⟩
  · refine pr_q h k 0 ?_ ?_
    · refine c_X8_judge (d := 29) (g_X8_judge_0 (by decide) ?_)
      refine xuse (t_told_no hk h.1.2.2.2.1 hn hA.1.2) (by decide) ?_
      rintro _ _ ⟨rfl, rfl⟩
      refine g_X8_judge_5 (by decide) ?_
      rw [if_neg (show ¬ -(Int32.ofNat k) = 0 from fun q => by
        rw [show (0 : Int32) = Int32.ofNat 0 from rfl, xv_m1' (by decide) (by omega) (by omega)] at q
        exact q.elim)]
      exact oX_no h k2 (by omega)
    · intro J hJ hM
      refine c_X9_judge (d := 29) (g_X9_judge_0 (by decide) ?_)
      refine tree_no hk (fun s => hJ _ _ (by unfold scrXr scrX; omega)) (fun s => hJ _ _ (by unfold scrXr scrX; omega)) hM.1.1 hA.1.2 ?_ ?_ ?_
      · rintro rfl; exact g_X9_judge_24 (by decide) (oM_no (xsm_refl _ _) (by decide) (by decide))
      · rintro rfl; exact g_X9_judge_24 (by decide) (oM_no (xsm_refl _ _) (by decide) (by decide))
      · rintro rfl; exact g_X9_judge_24 (by decide) (oM_no (xsm_refl _ _) (by decide) (by decide))
  · refine pr_q h 0 (wrA (ab_n A) (fun i => tn (L (71 + s) i)) 0) ?_ ?_
    · refine c_X8_judge (d := 29) (g_X8_judge_0 (by decide) ?_)
      refine xuse (t_told hs hv hm h58 h59 (h.1.2.2.2.1 s hs) h67 hn hA.1.2 nm) (by decide) ?_
      rintro _ _ ⟨rfl, J, rfl, hJ, j64⟩
      refine g_X8_judge_5 (by decide) ?_
      rw [if_pos rfl]
      refine xuse (t_wrongX (n := ab_n A) (pl := fun i => tn (L (71 + s) i)) ((hJ 10 0 (by unfold xAt; omega)).trans hn) hA.1.2 (fun i hi => by rw [j64 i hi, hrow i (by omega)]; rfl) (fun i => by rcases tn_cases (L (71 + s) i) with ⟨a, _⟩ | ⟨a, _⟩ <;> omega)) (by decide) ?_
      rintro _ _ ⟨rfl, rfl⟩
      refine g_X8_judge_27 (by decide) (oX_ok (xsm_mono hJ (fun o k e => by unfold xAt at e; unfold scrX; omega)) ?_ (xTal_sm hJ (fun o k e => by unfold xAt at e; omega) t2) (by omega))
      exact xCache_sm hJ (fun o k e => by unfold xAt at e; unfold noC; omega) h.2.2.2.1
    · intro J hJ hM
      refine c_X9_judge (d := 29) (g_X9_judge_0 (by decide) ?_)
      refine tree_yes hs (by rw [hJ _ _ (by unfold scrXr scrX; omega)]; exact h67) (by rw [hJ _ _ (by unfold scrXr scrX; omega)]; exact h69) hm hM.1.1 nm ?_
      rw [xv_clamp (by omega)]
      refine xuse (t_wrongM hs hM.1.1 hA.1.1 hA.1.2) (by decide) ?_
      rintro _ _ ⟨rfl, K, rfl, hK, _⟩
      exact g_X9_judge_24 (by decide) (oM_ok (xsm_mono hK (fun o k e => by unfold xAt at e; unfold scrM; omega)))
