theorem t_howManyPoured {A : xAb} {I : xI} {L : xL} {z : Bool × Bool × Nat} {s : Nat} (hA : abOK A) (hX : xTX I 10 A) (hs : s < 6) : xCd 1 104 [.ref 10, .int (Int32.ofNat s)] (xS I L z) (fun r τ => r = some (.int (Int32.ofNat (aC A s))) ∧ τ = xS I L z) := by
  refine c_X6_howManyPoured (g_X6_howManyPoured_0 (Nat.zero_le _) ?_)
  have hn : I 10 0 = Int32.ofNat (ab_n A) := hX.1.1
  have h6 := hA.1.2
  have key : ∀ i, i ≤ ab_n A → h_X6_howManyPoured_4 0 (fun r τ => r = some (.int (Int32.ofNat (aC A s))) ∧ τ = xS I L z) (0, 0) I L z (Int32.ofNat s) (Int32.ofNat (fcnt (ab_pour A) s i)) (Int32.ofNat i) := by
    refine xcount _ (ab_n A) ?_ ?_
    · intro i hi k
      refine g_X6_howManyPoured_4 (Nat.zero_le _) ?_
      have hi6 : i < 6 := by omega
      have hp := hA.2.2.1 i hi6
      have hv : I 11 i = Int32.ofNat (ab_pour A i) := hX.2.1 i hi6
      simp (disch := omega) only [xl_0, xl_1, xl_2, xl_3, xl_4, xl_5, xl_6, xl_7, xl_8, xl_9, xl_10, xl_15, xl_18, xl_24, xl_31, xl_32, xl_36, xl_40, xl_48, xl_63, xl_64, xl_144, xl_250, xl_320, xl_720, xl_721, xl_1000, xl_1023, xl_1024, xv_lt, xv_eq, xv_in, xv_clamp, xv_add, xv_mul, xv_dec, xv_div, xv_mod, xv_m1, xv_m1', xv_and, xv_or, xv_shl, xv_shr, xv_bit0, xv_bit1, hn, hi, hi6, if_true, hv]
      simp only [fcnt] at k
      by_cases e : ab_pour A i = s
      · rw [if_pos e] at k ⊢; exact k
      · rw [if_neg e] at k ⊢; exact k
    · refine g_X6_howManyPoured_4 (Nat.zero_le _) ?_
      simp (disch := omega) only [xl_0, xl_1, xl_2, xl_3, xl_4, xl_5, xl_6, xl_7, xl_8, xl_9, xl_10, xl_15, xl_18, xl_24, xl_31, xl_32, xl_36, xl_40, xl_48, xl_63, xl_64, xl_144, xl_250, xl_320, xl_720, xl_721, xl_1000, xl_1023, xl_1024, xv_lt, xv_eq, xv_in, xv_clamp, xv_add, xv_mul, xv_dec, xv_div, xv_mod, xv_m1, xv_m1', xv_and, xv_or, xv_shl, xv_shr, xv_bit0, xv_bit1, hn, Nat.lt_irrefl, if_false]
      exact ⟨rfl, trivial⟩
  exact key 0 (Nat.zero_le _)
/-- what the step to the next row comes to -/
def stepI (n : Nat) (r : Nat → Nat) (i : Nat) : Prop := i + 1 < n ∧ r i < r (i + 1) ∧ ∀ k, i < k → k + 1 < n → r (k + 1) ≤ r k
def stepJ (n : Nat) (r : Nat → Nat) (i j : Nat) : Prop := i < j ∧ j < n ∧ r i < r j ∧ ∀ k, j < k → k < n → r k ≤ r i
def stepQ (n : Nat) (r : Nat → Nat) (I : xI) (L : xL) (z : Bool × Bool × Nat) (v : Option Value) (τ : xH) : Prop :=
  ((∀ k, k + 1 < n → r (k + 1) ≤ r k) ∧ v = some (.int 0) ∧ τ = xS I L z) ∨
  (∃ i j, stepI n r i ∧ stepJ n r i j ∧ v = some (.int 1) ∧ ∃ J, τ = xS J L z ∧ xsm (xAt 41) I J ∧ ∀ k, k < n → J 41 k = Int32.ofNat (nxF n i j r k))
theorem t_stepMixed {I : xI} {L : xL} {z : Bool × Bool × Nat} {n : Nat} {r : Nat → Nat} (h2 : 2 ≤ n) (h6 : n ≤ 6) (hr : ∀ k, k < n → I 41 k = Int32.ofNat (r k)) (hb : ∀ k, k < n → r k < 6) : xCd 1 116 [.ref 37, .int (Int32.ofNat n)] (xS I L z) (stepQ n r I L z) := by
  refine c_X7_stepMixed (g_X7_stepMixed_0 (Nat.zero_le _) ?_)
  simp (disch := omega) only [xl_0, xl_1, xl_2, xl_3, xl_4, xl_5, xl_6, xl_7, xl_8, xl_9, xl_10, xl_15, xl_18, xl_24, xl_31, xl_32, xl_36, xl_40, xl_48, xl_63, xl_64, xl_144, xl_250, xl_320, xl_720, xl_721, xl_1000, xl_1023, xl_1024, xv_lt, xv_eq, xv_in, xv_clamp, xv_add, xv_mul, xv_dec, xv_div, xv_mod, xv_m1, xv_m1', xv_and, xv_or, xv_shl, xv_shr, xv_bit0, xv_bit1, xv_sub, show ¬ 6 < n by omega, if_false]
  -- the suffix is turned round
  have rev : ∀ i j, stepI n r i → stepJ n r i j → ∀ m lw hg (J : xI), hg ≤ lw + m → i + 1 ≤ lw → lw + hg = n + i → lw < n → xsm (xAt 41) I J →
      (∀ k, k < n → J 41 k = Int32.ofNat (if (i + 1 ≤ k ∧ k < lw) ∨ (hg < k) then (if n + i - k = j then r i else if n + i - k = i then r j else r (n + i - k)) else (if k = j then r i else if k = i then r j else r k))) → ∀ a1 a2 a3 a4, h_X7_stepMixed_116 0 (stepQ n r I L z) (0, 0) J L z a1 a2 a3 a4 (Int32.ofNat hg) (Int32.ofNat lw) := by
    intro i j hi hj m
    obtain ⟨i1, i2, i3⟩ := hi
    obtain ⟨j1, j2, j3, j4⟩ := hj
    induction m with
    | zero =>
      intro lw hg J hm hlo hs hlw hJ hk a1 a2 a3 a4
      refine g_X7_stepMixed_116 (Nat.zero_le _) ?_
      simp (disch := omega) only [xl_0, xl_1, xl_2, xl_3, xl_4, xl_5, xl_6, xl_7, xl_8, xl_9, xl_10, xl_15, xl_18, xl_24, xl_31, xl_32, xl_36, xl_40, xl_48, xl_63, xl_64, xl_144, xl_250, xl_320, xl_720, xl_721, xl_1000, xl_1023, xl_1024, xv_lt, xv_eq, xv_in, xv_clamp, xv_add, xv_mul, xv_dec, xv_div, xv_mod, xv_m1, xv_m1', xv_and, xv_or, xv_shl, xv_shr, xv_bit0, xv_bit1, show ¬ lw < hg by omega, if_false]
      refine Or.inr ⟨i, j, ⟨i1, i2, i3⟩, ⟨j1, j2, j3, j4⟩, rfl, J, rfl, hJ, fun k hkn => ?_⟩
      rw [hk k hkn]
      unfold nxF
      congr 1
      (repeat' split) <;> first | rfl | omega | (congr 1; omega)
    | succ m ih =>
      intro lw hg J hm hlo hs hlw hJ hk a1 a2 a3 a4
      by_cases e : lw < hg
      · refine g_X7_stepMixed_116 (Nat.zero_le _) ?_
        have q1 : lw < 6 := by omega
        have q2 : hg < 6 := by omega
        simp (disch := omega) only [xl_0, xl_1, xl_2, xl_3, xl_4, xl_5, xl_6, xl_7, xl_8, xl_9, xl_10, xl_15, xl_18, xl_24, xl_31, xl_32, xl_36, xl_40, xl_48, xl_63, xl_64, xl_144, xl_250, xl_320, xl_720, xl_721, xl_1000, xl_1023, xl_1024, xv_lt, xv_eq, xv_in, xv_clamp, xv_add, xv_mul, xv_dec, xv_div, xv_mod, xv_m1, xv_m1', xv_and, xv_or, xv_shl, xv_shr, xv_bit0, xv_bit1, e, q1, q2, if_true]
        refine ih (lw + 1) (hg - 1) _ (by omega) (by omega) (by omega) (by omega) (xsm_xw rfl (xsm_xw rfl hJ)) ?_ _ _ _ _
        intro k hkn
        have v1 := hk lw (by omega)
        have v2 := hk hg (by omega)
        rw [if_neg (by omega)] at v1 v2
        by_cases k1 : k = hg
        · subst k1
          rw [xw_eq, v1, if_pos (show (i + 1 ≤ k ∧ k < lw + 1) ∨ (k - 1 < k) by omega)]
          congr 1
          rw [show n + i - k = lw from by omega]
        · rw [xw_ne2 k1]
          by_cases k2 : k = lw
          · subst k2
            rw [xw_eq, v2, if_pos (show (i + 1 ≤ k ∧ k < k + 1) ∨ (hg - 1 < k) by omega)]
            congr 1
            rw [show n + i - k = hg from by omega]
          · rw [xw_ne2 k2, hk k hkn]
            congr 1
            by_cases k3 : (i + 1 ≤ k ∧ k < lw) ∨ (hg < k)
            · rw [if_pos k3, if_pos (show (i + 1 ≤ k ∧ k < lw + 1) ∨ (hg - 1 < k) by omega)]
            · rw [if_neg k3, if_neg (show ¬ ((i + 1 ≤ k ∧ k < lw + 1) ∨ (hg - 1 < k)) by omega)]
      · exact (ih lw hg J (by omega) hlo hs hlw hJ hk a1 a2 a3 a4)
  -- the last greater one
  have fj : ∀ i, stepI n r i → ∀ j, i < j → j < n → (∀ k, j < k → k < n → r k ≤ r i) → h_X7_stepMixed_52 0 (stepQ n r I L z) (0, 0) I L z (Int32.ofNat n) (Int32.ofNat i) (Int32.ofNat j) := by
    intro i hi j
    induction j with
    | zero => intro a; omega
    | succ j ih =>
      intro a b c
      refine g_X7_stepMixed_52 (Nat.zero_le _) ?_
      have q1 : i < 6 := by omega
      have q2 : j + 1 < 6 := by omega
      have b1 := hb i (by omega)
      have b2 := hb (j + 1) b
      simp (disch := omega) only [xl_0, xl_1, xl_2, xl_3, xl_4, xl_5, xl_6, xl_7, xl_8, xl_9, xl_10, xl_15, xl_18, xl_24, xl_31, xl_32, xl_36, xl_40, xl_48, xl_63, xl_64, xl_144, xl_250, xl_320, xl_720, xl_721, xl_1000, xl_1023, xl_1024, xv_lt, xv_eq, xv_in, xv_clamp, xv_add, xv_mul, xv_dec, xv_div, xv_mod, xv_m1, xv_m1', xv_and, xv_or, xv_shl, xv_shr, xv_bit0, xv_bit1, a, q1, q2, if_true, hr i (by omega), hr (j + 1) b, xv_sub]
      by_cases e : r i < r (j + 1)
      · rw [if_pos e]
        refine rev i (j + 1) hi ⟨a, b, e, c⟩ n (i + 1) (n - 1) _ (by omega) (by omega) (by omega) (by omega) (xsm_xw rfl (xsm_xw rfl (xsm_refl _ _))) ?_ _ _ _ _
        intro k hk
        rw [if_neg (by omega)]
        by_cases k1 : k = i
        · subst k1
          rw [xw_eq, if_neg (by omega), if_pos rfl]
        · rw [xw_ne2 k1]
          by_cases k2 : k = j + 1
          · rw [k2, xw_eq, if_pos rfl]
          · rw [xw_ne2 k2, if_neg k2, if_neg k1]; exact hr k hk
      · rw [if_neg e]
        have hne : i ≠ j := fun q => by
          subst q
          exact e hi.2.1
        refine ih (by omega) (by omega) fun k k1 k2 => ?_
        by_cases k3 : k = j + 1
        · rw [k3]; omega
        · exact c k (by omega) k2
  have fi : ∀ i, i + 1 < n → (∀ k, i < k → k + 1 < n → r (k + 1) ≤ r k) → h_X7_stepMixed_15 0 (stepQ n r I L z) (0, 0) I L z (Int32.ofNat n) (Int32.ofNat i) := by
    intro i
    induction i with
    | zero =>
      intro a c
      refine g_X7_stepMixed_15 (Nat.zero_le _) ?_
      have b1 := hb 0 (by omega)
      have b2 := hb 1 (by omega)
      simp (disch := omega) only [xl_0, xl_1, xl_2, xl_3, xl_4, xl_5, xl_6, xl_7, xl_8, xl_9, xl_10, xl_15, xl_18, xl_24, xl_31, xl_32, xl_36, xl_40, xl_48, xl_63, xl_64, xl_144, xl_250, xl_320, xl_720, xl_721, xl_1000, xl_1023, xl_1024, xv_lt, xv_eq, xv_in, xv_clamp, xv_add, xv_mul, xv_dec, xv_div, xv_mod, xv_m1, xv_m1', xv_and, xv_or, xv_shl, xv_shr, xv_bit0, xv_bit1, Nat.lt_irrefl, Nat.reduceLT, Nat.reduceAdd, if_true, if_false, hr 0 (by omega), hr 1 (by omega), xv_sub]
      by_cases e : r 0 < r 1
      · rw [if_pos e]
        exact fj 0 ⟨a, e, c⟩ (n - 1) (by omega) (by omega) (fun k k1 k2 => by omega)
      · rw [if_neg e]
        refine g_X7_stepMixed_15 (Nat.zero_le _) ?_
        rw [if_pos (by decide)]
        refine Or.inl ⟨fun k hk => ?_, rfl, rfl⟩
        by_cases k0 : k = 0
        · subst k0; exact Nat.not_lt.mp e
        · exact c k (by omega) hk
    | succ i ih =>
      intro a c
      refine g_X7_stepMixed_15 (Nat.zero_le _) ?_
      have b1 := hb (i + 1) (by omega)
      have b2 := hb (i + 1 + 1) (by omega)
      have q1 : i + 1 < 6 := by omega
      have q2 : i + 1 + 1 < 6 := by omega
      simp (disch := omega) only [xl_0, xl_1, xl_2, xl_3, xl_4, xl_5, xl_6, xl_7, xl_8, xl_9, xl_10, xl_15, xl_18, xl_24, xl_31, xl_32, xl_36, xl_40, xl_48, xl_63, xl_64, xl_144, xl_250, xl_320, xl_720, xl_721, xl_1000, xl_1023, xl_1024, xv_lt, xv_eq, xv_in, xv_clamp, xv_add, xv_mul, xv_dec, xv_div, xv_mod, xv_m1, xv_m1', xv_and, xv_or, xv_shl, xv_shr, xv_bit0, xv_bit1, Nat.not_lt_zero, q1, q2, if_true, if_false, hr (i + 1) (by omega), hr (i + 1 + 1) (by omega), xv_sub]
      by_cases e : r (i + 1) < r (i + 1 + 1)
      · rw [if_pos e]
        exact fj (i + 1) ⟨a, e, c⟩ (n - 1) (by omega) (by omega) (fun k k1 k2 => by omega)
      · rw [if_neg e]
        refine ih (by omega) fun k k1 k2 => ?_
        by_cases k3 : k = i + 1
        · rw [k3]; omega
        · exact c k (by omega) k2
  exact fi (n - 2) (by omega) (fun k k1 k2 => by omega)
theorem asc_val {c : Nat → Nat} {s k : Nat} (hs : s < 6) (h1 : mixS c s ≤ k) (h2 : k < mixS c (s + 1)) : ascF c k = s := by
  have hq : s = 0 ∨ s = 1 ∨ s = 2 ∨ s = 3 ∨ s = 4 ∨ s = 5 := by omega
  rcases hq with rfl | rfl | rfl | rfl | rfl | rfl <;> simp only [mixS, Nat.zero_add] at h1 h2 <;> unfold ascF <;> (repeat' split) <;> omega
theorem mixS_mono {c : Nat → Nat} : ∀ {s t : Nat}, s ≤ t → mixS c s ≤ mixS c t := by
  intro s t h
  induction h with
  | refl => exact Nat.le_refl _
  | step _ ih => exact Nat.le_trans ih (Nat.le_add_right _ _)
/-- the step is the next row -/
theorem step_uniq {n : Nat} {r r' : Nat → Nat} {i j : Nat} (h : isNx n r r') (hi : stepI n r i) (hj : stepJ n r i j) : ∀ k, k < n → nxF n i j r k = r' k := by
  obtain ⟨i', j', h1, h2, h3, h4, h5, h6, h7⟩ := h
  obtain ⟨a1, a2, a3⟩ := hi
  obtain ⟨b1, b2, b3, b4⟩ := hj
  have ei : i = i' := by
    rcases Nat.lt_trichotomy i i' with q | q | q
    · have := a3 i' q (by omega); omega
    · exact q
    · have := h4 i q (by omega); omega
  subst ei
  have ej : j = j' := by
    rcases Nat.lt_trichotomy j j' with q | q | q
    · have := b4 j' q h2; omega
    · exact q
    · have := h6 j q b2; omega
  subst ej
  exact fun k hk => (h7 k hk).symm
