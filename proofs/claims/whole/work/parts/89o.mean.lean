/-! promises: handing, the mean and the cost of one that is told -/
def aMn (A : xAb) (pl : Nat → Nat) : Nat → Nat := sum6 (fun g => ab_mind A g * aMd A g (pl g))
abbrev suitA (A : xAb) (g p : Nat) : Prop := ab_want A g = -1 ∨ Int32.ofNat (ab_stood A p) = ab_want A g
def aCo (A : xAb) (pl : Nat → Nat) : Nat → Nat := sum6 (fun g => if suitA A g (pl g) then 0 else ab_mind A g)
theorem f_mind {A : xAb} {I : xI} {L : xL} {g : Nat} (hX : xTX I 10 A) (hg : g < 6) : f_X6_mindOf I L (Int32.ofNat g) = Int32.ofNat (ab_mind A g) := by
  have q : I 15 g = Int32.ofNat (ab_mind A g) := hX.2.2.2.2.2.1 g hg
  unfold f_X6_mindOf
  simp (disch := omega) only [xl_0, xl_1, xl_2, xl_3, xl_4, xl_5, xl_6, xl_7, xl_8, xl_9, xl_10, xl_15, xl_18, xl_24, xl_31, xl_32, xl_36, xl_40, xl_48, xl_63, xl_64, xl_144, xl_250, xl_320, xl_720, xl_721, xl_1000, xl_1023, xl_1024, xv_lt, xv_eq, xv_in, xv_clamp, xv_add, xv_mul, xv_dec, xv_div, xv_mod, xv_m1, xv_m1', xv_and, xv_or, xv_shl, xv_shr, xv_bit0, xv_bit1, Nat.not_lt_zero, hg, if_true, if_false, q]
theorem f_want {A : xAb} {I : xI} {L : xL} {g : Nat} (hX : xTX I 10 A) (hg : g < 6) : f_X6_wantOf I L (Int32.ofNat g) = ab_want A g := by
  have q : I 14 g = ab_want A g := hX.2.2.2.2.1 g hg
  unfold f_X6_wantOf
  simp (disch := omega) only [xl_0, xl_1, xl_2, xl_3, xl_4, xl_5, xl_6, xl_7, xl_8, xl_9, xl_10, xl_15, xl_18, xl_24, xl_31, xl_32, xl_36, xl_40, xl_48, xl_63, xl_64, xl_144, xl_250, xl_320, xl_720, xl_721, xl_1000, xl_1023, xl_1024, xv_lt, xv_eq, xv_in, xv_clamp, xv_add, xv_mul, xv_dec, xv_div, xv_mod, xv_m1, xv_m1', xv_and, xv_or, xv_shl, xv_shr, xv_bit0, xv_bit1, Nat.not_lt_zero, hg, if_true, if_false, q]
theorem f_trA {A : xAb} {I : xI} {L : xL} {p : Nat} (hX : xTX I 10 A) (hp : p < 6) : f_X6_truthAt I L (Int32.ofNat p) = Int32.ofNat (ab_stood A p) := by
  unfold f_X6_truthAt
  rw [if_neg (xv_neg (by omega)), if_pos (show Int32.ofNat p < (6 : Int32) from (xv_lt (b := 6) (by omega) (by decide)).mpr hp), if_pos ((xv_in (by omega)).mpr hp), xv_clamp (by omega)]
  exact hX.2.2.1 p hp
theorem p_suits {A : xAb} {I : xI} {L : xL} {g p : Nat} (hX : xTX I 10 A) (hg : g < 6) (hp : p < 6) : p_X0_suits I L (Int32.ofNat g) (Int32.ofNat p) ↔ suitA A g p := by
  show (f_X6_wantOf I L (Int32.ofNat g) = (-1 : Int32) ∨ f_X6_truthAt I L (Int32.ofNat p) = f_X6_wantOf I L (Int32.ofNat g)) ↔ _
  rw [f_want hX hg, f_trA hX hp]
theorem t_meanX {A : xAb} {J : xI} {L : xL} {z : Bool × Bool × Nat} {pl : Nat → Nat} (hA : abOK A) (hX : xTX J 10 A) (hP : xPos A J) (h64 : ∀ i, i < ab_n A → J 64 i = Int32.ofNat (pl i)) (hpl : ∀ i, i < ab_n A → pl i < ab_n A) : xCd 3 4 [.ref 50, .ref 64] (xS J L z) (qP J L z (Int32.ofNat (aMn A pl (ab_n A)))) := by
  refine c_X0_meanOf (d := 2) (g_X0_meanOf_0 (by decide) ?_)
  have h6 := hA.1.2
  have hn := hX.1.1
  have key : ∀ i, i ≤ ab_n A → h_X0_meanOf_4 2 (qP J L z (Int32.ofNat (aMn A pl (ab_n A)))) (0, 0) J L z 64 (Int32.ofNat (aMn A pl i)) (Int32.ofNat i) := by
    refine xcount _ (ab_n A) ?_ ?_
    · intro i hi KK
      refine g_X0_meanOf_4 (by decide) ?_
      rw [if_pos (show Int32.ofNat i < J 10 0 by rw [hn]; exact (xv_lt (by omega) (by omega)).mpr hi)]
      refine xbifT (show (xalive (112, bif z.1 then 158 else 112, bif z.2.1 then 204 else 158) 64 && Nat.ble 20 (xkind 64) && !(Nat.beq (xkind 64) 24)) = true from rfl) ?_
      rw [show Int32.ofNat (xlen z.2.2 64) = Int32.ofNat 6 from rfl, if_pos ((xv_lt (by omega) (by omega)).mpr (by omega))]
      refine xbifT (show xisi (xS J L z) 64 = true from rfl) ?_
      rw [show xlen z.2.2 64 = 6 from rfl, if_pos ((xv_in (by omega)).mpr (by omega))]
      rw [xv_clamp (show i < 2147483648 by omega), h64 i hi, f_mind hX (by omega), f_wrong hA hX hP (by omega) (hpl i hi), xv_mul, xv_add, show Int32.ofNat i + 1 = Int32.ofNat (i + 1) from xv_add i 1]
      exact KK
    · refine g_X0_meanOf_4 (by decide) ?_
      rw [if_neg (show ¬ Int32.ofNat (ab_n A) < J 10 0 by rw [hn]; exact fun q => absurd ((xv_lt (by omega) (by omega)).mp q) (Nat.lt_irrefl _))]
      exact ⟨rfl, rfl⟩
  exact key 0 (Nat.zero_le _)
theorem t_meanM {A : xAb} {J : xI} {L : xL} {z : Bool × Bool × Nat} {pl : Nat → Nat} (hA : abOK A) (hM : xTM J 66 A) (hR : xRef A J) (h109 : ∀ i, i < ab_n A → J 109 i = Int32.ofNat (pl i)) (hpl : ∀ i, i < ab_n A → pl i < ab_n A) : xCd 3 268 [.ref 66, .ref 109] (xS J L z) (qP J L z (Int32.ofNat (aMn A pl (ab_n A)))) := by
  refine c_X9_meanOf (d := 2) (g_X9_meanOf_0 (by decide) ?_)
  have h6 := hA.1.2
  have hn := hM.1.1
  have key : ∀ i, i ≤ ab_n A → h_X9_meanOf_4 2 (qP J L z (Int32.ofNat (aMn A pl (ab_n A)))) (0, 0) J L z 109 (Int32.ofNat (aMn A pl i)) (Int32.ofNat i) := by
    refine xcount _ (ab_n A) ?_ ?_
    · intro i hi KK
      refine g_X9_meanOf_4 (by decide) ?_
      rw [if_pos (show Int32.ofNat i < J 66 9 by rw [hn]; exact (xv_lt (by omega) (by omega)).mpr hi), if_pos ((xv_in (by omega)).mpr (by omega))]
      refine xbifT (show xisi (xS J L z) 109 = true from rfl) ?_
      rw [show xlen z.2.2 109 = 6 from rfl, if_pos ((xv_in (by omega)).mpr (by omega)), xv_clamp (show i < 2147483648 by omega), h109 i hi]
      refine xuse (t_mindM hA hM hR (by omega) (hpl i hi)) (by decide) ?_
      rintro _ _ ⟨rfl, rfl⟩
      have m93 : J 93 i = Int32.ofNat (ab_mind A i) := hM.2.2.2.2.2.1 i (by omega)
      rw [m93]
      refine g_X9_meanOf_27 (by decide) ?_
      rw [xv_mul, xv_add, show Int32.ofNat i + 1 = Int32.ofNat (i + 1) from xv_add i 1]
      exact KK
    · refine g_X9_meanOf_4 (by decide) ?_
      rw [if_neg (show ¬ Int32.ofNat (ab_n A) < J 66 9 by rw [hn]; exact fun q => absurd ((xv_lt (by omega) (by omega)).mp q) (Nat.lt_irrefl _))]
      exact ⟨rfl, rfl⟩
  exact key 0 (Nat.zero_le _)
theorem t_costX {A : xAb} {J : xI} {L : xL} {z : Bool × Bool × Nat} {pl : Nat → Nat} (hA : abOK A) (hX : xTX J 10 A) (h64 : ∀ i, i < ab_n A → J 64 i = Int32.ofNat (pl i)) (hpl : ∀ i, i < ab_n A → pl i < ab_n A) : xCd 3 5 [.ref 50, .ref 64] (xS J L z) (qP J L z (Int32.ofNat (aCo A pl (ab_n A)))) := by
  refine c_X0_costInTruth (d := 2) (g_X0_costInTruth_0 (by decide) ?_)
  have h6 := hA.1.2
  have hn := hX.1.1
  have key : ∀ i, i ≤ ab_n A → h_X0_costInTruth_4 2 (qP J L z (Int32.ofNat (aCo A pl (ab_n A)))) (0, 0) J L z 64 (Int32.ofNat (aCo A pl i)) (Int32.ofNat i) := by
    refine xcount _ (ab_n A) ?_ ?_
    · intro i hi KK
      refine g_X0_costInTruth_4 (by decide) ?_
      have hp := hpl i hi
      rw [if_pos (show Int32.ofNat i < J 10 0 by rw [hn]; exact (xv_lt (by omega) (by omega)).mpr hi)]
      refine xbifT (show (xalive (112, bif z.1 then 158 else 112, bif z.2.1 then 204 else 158) 64 && Nat.ble 20 (xkind 64) && !(Nat.beq (xkind 64) 24)) = true from rfl) ?_
      rw [show Int32.ofNat (xlen z.2.2 64) = Int32.ofNat 6 from rfl, if_pos ((xv_lt (by omega) (by omega)).mpr (by omega))]
      refine xbifT (show xisi (xS J L z) 64 = true from rfl) ?_
      rw [show xlen z.2.2 64 = 6 from rfl, if_pos ((xv_in (by omega)).mpr (by omega))]
      simp only [xv_clamp (show i < 2147483648 by omega), h64 i hi]
      rw [f_mind hX (by omega), show Int32.ofNat i + 1 = Int32.ofNat (i + 1) from xv_add i 1]
      have st : aCo A pl (i + 1) = aCo A pl i + (if suitA A i (pl i) then 0 else ab_mind A i) := rfl
      rw [st] at KK
      have ps := p_suits (L := L) (p := pl i) hX (show i < 6 by omega) (by omega)
      by_cases e : suitA A i (pl i)
      · rw [if_pos (ps.mpr e)]
        rw [if_pos e, Nat.add_zero] at KK; exact KK
      · rw [if_neg (fun x => e (ps.mp x)), xv_add]
        rw [if_neg e] at KK; exact KK
    · refine g_X0_costInTruth_4 (by decide) ?_
      rw [if_neg (show ¬ Int32.ofNat (ab_n A) < J 10 0 by rw [hn]; exact fun q => absurd ((xv_lt (by omega) (by omega)).mp q) (Nat.lt_irrefl _))]
      exact ⟨rfl, rfl⟩
  exact key 0 (Nat.zero_le _)
