/-! promise: handing -/
def scrSM : Nat → Nat → Prop := fun o k => o = 111 ∨ (o = 66 ∧ k = 41)
theorem t_seekM {A : xAb} {J : xI} {L : xL} {z : Bool × Bool × Nat} {pl : Nat → Nat} (hA : abOK A) (hM : xTM J 66 A) (h109 : ∀ i, i < ab_n A → J 109 i = Int32.ofNat (pl i)) (hp : hnd (ab_n A) pl) : ∀ m g, g + m = ab_n A → ∀ (K : xI) (u : Nat) (tk : Nat → Nat) (w : Int32), xsm scrSM J K → K 66 41 = w → (∀ j, j < g → K 111 j = Int32.ofNat (tk j)) → (∀ j, j < g → tk j < ab_n A) → u < 64 → xCd (m + 3) 275 [.ref 66, .int (Int32.ofNat g), .int (Int32.ofNat u)] (xS K L z) (fun r τ => r = none ∧ ∃ K', τ = xS K' L z ∧ xsm scrSM J K' ∧ K' 66 41 = swD (ab_n A) (hold pl (ab_n A)) (suitS A) m u tk w ∧ ∀ j, j < g → K' 111 j = Int32.ofNat (tk j)) := by
  have h6 := hA.1.2
  have hn : ∀ K : xI, xsm scrSM J K → K 66 9 = Int32.ofNat (ab_n A) := fun K hK => (hK 66 9 (by unfold scrSM; omega)).trans hM.1.1
  have k109 : ∀ K : xI, xsm scrSM J K → ∀ p, p < ab_n A → K 109 p = Int32.ofNat (pl p) := fun K hK p hp => (hK 109 p (by unfold scrSM; omega)).trans (h109 p hp)
  have kM : ∀ K : xI, xsm scrSM J K → xTM K 66 A := fun K hK => xTM_sm hK (by unfold scrSM; omega) (fun o a b k => by unfold scrSM; omega) hM
  intro m
  induction m with
  | zero =>
    intro g hg K u tk w hK hw h111 ht hu
    refine c_X9_seekSwaps (d := 2) (g_X9_seekSwaps_0 (by decide) ?_)
    have e : g = ab_n A := by omega
    subst e
    rw [hn K hK, if_pos rfl]
    refine xuse (t_swapsTo (hn K hK) h6 (k109 K hK) hp h111 ht) (by decide) ?_
    rintro _ _ ⟨rfl, rfl⟩
    refine g_X9_seekSwaps_12 (by decide) ?_
    rw [hw]
    have sv : swD (ab_n A) (hold pl (ab_n A)) (suitS A) 0 u tk w = swU w (ab_n A - rnA (fun g => hold pl (ab_n A) (tk g)) (ab_n A) 0 0 0) := rfl
    have fin : ∀ v : Int32, v = swU w (ab_n A - rnA (fun g => hold pl (ab_n A) (tk g)) (ab_n A) 0 0 0) → (none : Option Value) = none ∧ ∃ K', xS (xw K 66 41 v) L z = xS K' L z ∧ xsm scrSM J K' ∧ K' 66 41 = swD (ab_n A) (hold pl (ab_n A)) (suitS A) 0 u tk w ∧ ∀ j, j < ab_n A → K' 111 j = Int32.ofNat (tk j) := fun v hv =>
      ⟨rfl, _, rfl, xsm_xw (Or.inr ⟨rfl, rfl⟩) hK, by rw [xw_eq, sv]; exact hv, fun j hj => by rw [xw_ne1 (by decide)]; exact h111 j hj⟩
    by_cases c : w = (-1 : Int32)
    · rw [if_pos c]
      exact fin _ (by unfold swU; rw [if_pos c])
    · rw [if_neg c]
      by_cases d : Int32.ofNat (ab_n A - rnA (fun g => hold pl (ab_n A) (tk g)) (ab_n A) 0 0 0) < w
      · rw [if_pos d]
        exact fin _ (by unfold swU; rw [if_neg c, if_pos d])
      · rw [if_neg d]
        exact fin _ (by unfold swU; rw [if_neg c, if_neg d])
  | succ m ih =>
    intro g hg K u tk w hK hw h111 ht hu
    refine c_X9_seekSwaps (g_X9_seekSwaps_0 (by omega) ?_)
    rw [hn K hK, if_neg (show ¬ Int32.ofNat g = Int32.ofNat (ab_n A) from fun q => by have := (xv_eq (by omega) (by omega)).mp q; omega)]
    have hg2 : ab_n A - (m + 1) = g := by omega
    have sv : swD (ab_n A) (hold pl (ab_n A)) (suitS A) (m + 1) u tk w = foldF (fun p w => if u.testBit p = false ∧ suitS A (ab_n A - (m + 1)) p = true then swD (ab_n A) (hold pl (ab_n A)) (suitS A) m (u ||| 2 ^ p) (fun j => if j = ab_n A - (m + 1) then p else tk j) w else w) (ab_n A) 0 w := rfl
    rw [hg2] at sv
    rw [sv]
    have key : ∀ p, p ≤ ab_n A → ∀ (K : xI) (w' : Int32), xsm scrSM J K → K 66 41 = w' → (∀ j, j < g → K 111 j = Int32.ofNat (tk j)) → foldF (fun p w => if u.testBit p = false ∧ suitS A g p = true then swD (ab_n A) (hold pl (ab_n A)) (suitS A) m (u ||| 2 ^ p) (fun j => if j = g then p else tk j) w else w) (ab_n A - p) p w' = foldF (fun p w => if u.testBit p = false ∧ suitS A g p = true then swD (ab_n A) (hold pl (ab_n A)) (suitS A) m (u ||| 2 ^ p) (fun j => if j = g then p else tk j) w else w) (ab_n A) 0 w → h_X9_seekSwaps_44 (m + 3) (fun r τ => r = none ∧ ∃ K', τ = xS K' L z ∧ xsm scrSM J K' ∧ K' 66 41 = foldF (fun p w => if u.testBit p = false ∧ suitS A g p = true then swD (ab_n A) (hold pl (ab_n A)) (suitS A) m (u ||| 2 ^ p) (fun j => if j = g then p else tk j) w else w) (ab_n A) 0 w ∧ ∀ j, j < g → K' 111 j = Int32.ofNat (tk j)) (0, 0) K L z (Int32.ofNat g) (Int32.ofNat u) (Int32.ofNat p) := by
      refine xcount _ (ab_n A) ?_ ?_
      · intro p hp KK K w' hK hw' h111 hf
        refine g_X9_seekSwaps_44 (by omega) ?_
        rw [if_pos (show Int32.ofNat p < K 66 9 by rw [hn K hK]; exact (xv_lt (by omega) (by omega)).mpr hp)]
        rw [foldF_at hp] at hf
        have hs := has_iff (I := K) (L := L) (u := u) (p := p) (by omega) (by omega)
        have w92 : K 92 g = ab_want A g := (kM K hK).2.2.2.2.1 g (by omega)
        have s84 : K 84 p = Int32.ofNat (ab_stood A p) := (kM K hK).2.2.1 p hp
        cases b : u.testBit p
        · rw [if_neg (fun q => by have := hs.mp q; rw [b] at this; exact absurd this (by decide)), if_pos ((xv_in (by omega)).mpr (by omega)), if_pos ((xv_in (by omega)).mpr (by omega))]
          simp only [xv_clamp (show p < 2147483648 by omega), xv_clamp (show g < 2147483648 by omega), w92, s84]
          by_cases c : suitA A g p
          · have go : xCd (m + 3) 275 [.ref 66, .int (Int32.ofNat g + 1), .int (Int32.ofNat u ||| (1 <<< (Int32.ofNat p &&& 31)))] (xS (xw K 111 g (Int32.ofNat p)) L z) (fun r τ => xEX k_X9_seekSwaps 0 (xCd (m + 3)) (fun r τ => r = none ∧ ∃ K', τ = xS K' L z ∧ xsm scrSM J K' ∧ K' 66 41 = foldF (fun p w => if u.testBit p = false ∧ suitS A g p = true then swD (ab_n A) (hold pl (ab_n A)) (suitS A) m (u ||| 2 ^ p) (fun j => if j = g then p else tk j) w else w) (ab_n A) 0 w ∧ ∀ j, j < g → K' 111 j = Int32.ofNat (tk j)) 93 [some (.ref 66), some (.int (Int32.ofNat g)), some (.int (Int32.ofNat u)), some (.int (Int32.ofNat p))] (r.toList ++ []) τ (0, 0)) := by
              rw [sh_one (by omega), xv_or, show Int32.ofNat g + 1 = Int32.ofNat (g + 1) from xv_add g 1]
              rw [if_pos ⟨b, decide_eq_true c⟩] at hf
              refine xuse (ih (g + 1) (by omega) (xw K 111 g (Int32.ofNat p)) (u ||| 2 ^ p) (fun j => if j = g then p else tk j) w' (xsm_xw (Or.inl rfl) hK) ((xw_ne1 (by decide)).trans hw') ?_ ?_ (or_64 hu (by omega))) (Nat.le_refl _) ?_
              · intro j hj
                show _ = Int32.ofNat (if j = g then p else tk j)
                by_cases d : j = g
                · rw [if_pos d, d, xw_eq]
                · rw [if_neg d, xw_ne2 d]; exact h111 j (by omega)
              · intro j hj
                show (if j = g then p else tk j) < ab_n A
                by_cases d : j = g
                · rw [if_pos d]; exact hp
                · rw [if_neg d]; exact ht j (by omega)
              · rintro _ _ ⟨rfl, K', rfl, hK', k7, k55⟩
                refine g_X9_seekSwaps_93 (by omega) ?_
                rw [show Int32.ofNat p + 1 = Int32.ofNat (p + 1) from xv_add p 1]
                refine KK K' _ hK' k7 (fun j hj => ?_) hf
                have := k55 j (by omega)
                rw [this]
                show Int32.ofNat (if j = g then p else tk j) = _
                rw [if_neg (by omega)]
            by_cases c1 : ab_want A g = (-1 : Int32)
            · rw [if_pos c1]; exact go
            · rw [if_neg c1, if_pos (show ab_want A g = Int32.ofNat (ab_stood A p) from by
                rcases c with c | c
                · exact absurd c c1
                · exact c.symm)]
              exact go
          · rw [if_neg (fun q => c (Or.inl q)), if_neg (fun q => c (Or.inr q.symm))]
            refine g_X9_seekSwaps_93 (by omega) ?_
            rw [show Int32.ofNat p + 1 = Int32.ofNat (p + 1) from xv_add p 1]
            rw [if_neg (fun q => c (of_decide_eq_true q.2))] at hf
            exact KK K w' hK hw' h111 hf
        · rw [if_pos (hs.mpr b)]
          refine g_X9_seekSwaps_93 (by omega) ?_
          rw [show Int32.ofNat p + 1 = Int32.ofNat (p + 1) from xv_add p 1]
          rw [if_neg (fun q => by have := q.1; rw [b] at this; exact absurd this (by decide))] at hf
          exact KK K w' hK hw' h111 hf
      · intro K w' hK hw' h111 hf
        refine g_X9_seekSwaps_44 (by omega) ?_
        rw [if_neg (show ¬ Int32.ofNat (ab_n A) < K 66 9 by rw [hn K hK]; exact fun q => absurd ((xv_lt (by omega) (by omega)).mp q) (Nat.lt_irrefl _))]
        rw [Nat.sub_self] at hf
        exact ⟨rfl, K, rfl, hK, hw'.trans hf, h111⟩
    exact key 0 (Nat.zero_le _) K w hK hw h111 rfl
/-- the fewest swaps from a handing -/
def aSwp (A : xAb) (pl : Nat → Nat) : Int32 := swD (ab_n A) (hold pl (ab_n A)) (suitS A) (ab_n A) 0 (fun _ => 0) (-1)
def scrSX4 : Nat → Nat → Prop := fun o k => o = 54 ∨ o = 55 ∨ (o = 50 ∧ k = 7)
theorem t_swapsOf {A : xAb} {J : xI} {L : xL} {z : Bool × Bool × Nat} {pl : Nat → Nat} (hA : abOK A) (hX : xTX J 10 A) (h64 : ∀ i, i < ab_n A → J 64 i = Int32.ofNat (pl i)) (hp : hnd (ab_n A) pl) : xCd 17 6 [.ref 50, .ref 64] (xS J L z) (qV scrSX4 J L z (aSwp A pl) (fun _ => True)) := by
  refine c_X0_swapsOf (d := 16) (g_X0_swapsOf_0 (by decide) ?_)
  have h6 := hA.1.2
  have hh : ∀ p, p < ab_n A → hold pl (ab_n A) p < ab_n A := fun p q => (hold_ok h6 hp q).1
  have key : ∀ i, i ≤ ab_n A → ∀ K : xI, xsm scrSX4 J K → (∀ g, g < i → K 54 (pl g) = Int32.ofNat g) → h_X0_swapsOf_2 16 (qV scrSX4 J L z (aSwp A pl) (fun _ => True)) (0, 0) K L z 64 (Int32.ofNat i) := by
    refine xcount _ (ab_n A) ?_ ?_
    · intro i hi KK K hK h54
      refine g_X0_swapsOf_2 (by decide) ?_
      have kn : K 10 0 = Int32.ofNat (ab_n A) := (hK 10 0 (by unfold scrSX4; omega)).trans hX.1.1
      have k64 : K 64 i = Int32.ofNat (pl i) := (hK 64 i (by unfold scrSX4; omega)).trans (h64 i hi)
      have pi := hp.1 i hi
      rw [if_pos (show Int32.ofNat i < K 10 0 by rw [kn]; exact (xv_lt (by omega) (by omega)).mpr hi)]
      refine xbifT (show (xalive (112, bif z.1 then 158 else 112, bif z.2.1 then 204 else 158) 64 && Nat.ble 20 (xkind 64) && !(Nat.beq (xkind 64) 24)) = true from rfl) ?_
      rw [show Int32.ofNat (xlen z.2.2 64) = Int32.ofNat 6 from rfl, if_pos ((xv_lt (by omega) (by omega)).mpr (by omega))]
      refine xbifT (show xisi (xS K L z) 64 = true from rfl) ?_
      rw [show xlen z.2.2 64 = 6 from rfl, if_pos ((xv_in (by omega)).mpr (by omega)), xv_clamp (show i < 2147483648 by omega), k64, if_pos ((xp_hasPlace kn h6).mpr (by rw [xv_int (by omega)]; omega)), if_pos ((xv_in (by omega)).mpr (by omega)), xv_clamp (by omega), show Int32.ofNat i + 1 = Int32.ofNat (i + 1) from xv_add i 1]
      refine KK _ (xsm_xw (Or.inl rfl) hK) (fun g hg => ?_)
      by_cases c : g = i
      · rw [c, xw_eq]
      · rw [xw_ne2 (hp.2 i hi g (by omega))]
        exact h54 g (by omega)
    · intro K hK h54
      refine g_X0_swapsOf_2 (by decide) ?_
      have kn : K 10 0 = Int32.ofNat (ab_n A) := (hK 10 0 (by unfold scrSX4; omega)).trans hX.1.1
      rw [if_neg (show ¬ Int32.ofNat (ab_n A) < K 10 0 by rw [kn]; exact fun q => absurd ((xv_lt (by omega) (by omega)).mp q) (Nat.lt_irrefl _))]
      have hK2 : xsm scrSX4 J (xw K 50 7 (-1)) := xsm_xw (Or.inr (Or.inr ⟨rfl, rfl⟩)) hK
      refine xuse (t_tryX (J := xw K 50 7 (-1)) (hd := hold pl (ab_n A)) hA (xTX_sm hK2 (fun k hk => by unfold scrSX4; omega) (fun o a b k => by unfold scrSX4; omega) hX) (fun p hq => ?_) hh (ab_n A) 0 (by omega) (xw K 50 7 (-1)) 0 (fun _ => 0) (-1) (xsm_refl _ _) (xw_eq _ _ _ _) (fun j hj => absurd hj (Nat.not_lt_zero _)) (fun j hj => absurd hj (Nat.not_lt_zero _)) (by decide)) (by omega) ?_
      · have := hold_ok h6 hp hq
        rw [xw_ne1 (by decide)]
        have e := h54 _ this.1
        rw [this.2] at e
        exact e
      · rintro _ _ ⟨rfl, K', rfl, hK', k7, _⟩
        refine g_X0_swapsOf_58 (by decide) ?_
        exact ⟨by rw [k7]; rfl, K', rfl, xsm_trans hK2 (xsm_mono hK' (fun o k e => by unfold scrSX at e; unfold scrSX4; omega)), trivial⟩
  exact key 0 (Nat.zero_le _) J (xsm_refl _ _) (fun g hg => absurd hg (Nat.not_lt_zero _))
/-- the cost in truth, as the reference counts it -/
theorem h_costM {A : xAb} {J : xI} {L : xL} {z : Bool × Bool × Nat} {pl : Nat → Nat} {F : xQ} {a1 a2 a3 : Int32} (hA : abOK A) (hM : xTM J 66 A) (h109 : ∀ i, i < ab_n A → J 109 i = Int32.ofNat (pl i)) (hpl : ∀ i, i < ab_n A → pl i < ab_n A) (h : F (some (.int (Int32.ofNat (aCo A pl (ab_n A))))) (xS J L z)) : h_X9_handing_128 29 F (0, 0) J L z a1 a2 a3 0 0 := by
  have h6 := hA.1.2
  have hn := hM.1.1
  have key : ∀ i, i ≤ ab_n A → h_X9_handing_128 29 F (0, 0) J L z a1 a2 a3 (Int32.ofNat (aCo A pl i)) (Int32.ofNat i) := by
    refine xcount _ (ab_n A) ?_ ?_
    · intro i hi KK
      refine g_X9_handing_128 (by decide) ?_
      have hp := hpl i hi
      have w92 : J 92 i = ab_want A i := hM.2.2.2.2.1 i (by omega)
      have m93 : J 93 i = Int32.ofNat (ab_mind A i) := hM.2.2.2.2.2.1 i (by omega)
      have s84 : J 84 (pl i) = Int32.ofNat (ab_stood A (pl i)) := hM.2.2.1 _ hp
      have st : aCo A pl (i + 1) = aCo A pl i + (if suitA A i (pl i) then 0 else ab_mind A i) := rfl
      rw [st] at KK
      rw [if_pos (show Int32.ofNat i < J 66 9 by rw [hn]; exact (xv_lt (by omega) (by omega)).mpr hi), if_pos ((xv_in (by omega)).mpr (by omega))]
      simp only [xv_clamp (show i < 2147483648 by omega), h109 i hi, w92, m93]
      rw [if_pos ((xv_in (by omega)).mpr (by omega))]
      simp only [xv_clamp (show pl i < 2147483648 by omega), s84]
      rw [show Int32.ofNat (aCo A pl i) + 0 = Int32.ofNat (aCo A pl i + 0) from xv_add _ 0, show Int32.ofNat i + 1 = Int32.ofNat (i + 1) from xv_add i 1]
      by_cases c1 : ab_want A i = (-1 : Int32)
      · rw [if_pos c1]
        rw [if_pos (Or.inl c1)] at KK
        exact KK
      · rw [if_neg c1]
        by_cases c2 : ab_want A i = Int32.ofNat (ab_stood A (pl i))
        · rw [if_pos c2]
          rw [if_pos (Or.inr c2.symm)] at KK
          exact KK
        · rw [if_neg c2, xv_add]
          rw [if_neg (fun q => by
            rcases q with q | q
            · exact c1 q
            · exact c2 q.symm)] at KK
          exact KK
    · refine g_X9_handing_128 (by decide) ?_
      rw [if_neg (show ¬ Int32.ofNat (ab_n A) < J 66 9 by rw [hn]; exact fun q => absurd ((xv_lt (by omega) (by omega)).mp q) (Nat.lt_irrefl _))]
      exact h
  exact key 0 (Nat.zero_le _)
theorem pr_handing (a1 a2 : Int32) : xPq 162 276 [.int a1, .int a2] := by
  intro c A I L z hc h
  have hA := h.1.1
  have h6 := hA.1.2
  have hn : I 10 0 = Int32.ofNat (ab_n A) := h.1.2.1.1.1
  have p2 : ∀ J : xI, p_X9_in J L (Int32.toInt64 a2) (Int64.ofNat 0) (Int64.ofNat 2) ↔ (((0 : Nat) : Int) ≤ a2.toInt ∧ a2.toInt ≤ ((2 : Nat) : Int)) := fun J => xp_in (by decide) (by decide)
  have l0 := @Int32.lt_iff_toInt_lt a2 0
  have l2 := @Int32.lt_iff_toInt_lt 2 a2
  rw [show (0 : Int32).toInt = 0 from rfl] at l0
  rw [show (2 : Int32).toInt = 2 from rfl] at l2
  by_cases w : 0 ≤ a2.toInt ∧ a2.toInt ≤ 2
  · have n0 : ¬ a2 < 0 := fun q => by have := l0.mp q; omega
    have n2 : ¬ 2 < a2 := fun q => by have := l2.mp q; omega
    have y2 : ∀ J : xI, p_X9_in J L (Int32.toInt64 a2) (Int64.ofNat 0) (Int64.ofNat 2) := fun J => (p2 J).mpr (by omega)
    rcases told_cases h.1 a1 with ⟨k, k2, k4, hk⟩ | ⟨s, m, v, hs, rfl, hv, hm, nm, h58, h59, h67, h69, hrow⟩
    · refine pr_q h k 0 ?_ ?_
      · refine c_X8_handing (d := 29) (g_X8_handing_0 (by decide) ?_)
        rw [if_neg n0, if_neg n2]
        refine xuse (t_told_no hk h.1.2.2.2.1 hn hA.1.2) (by decide) ?_
        rintro _ _ ⟨rfl, rfl⟩
        refine g_X8_handing_21 (by decide) ?_
        rw [if_neg (show ¬ -(Int32.ofNat k) = 0 from fun q => by
          rw [show (0 : Int32) = Int32.ofNat 0 from rfl, xv_m1' (by decide) (by omega) (by omega)] at q
          exact q.elim)]
        exact oX_no h k2 (by omega)
      · intro J hJ hM
        refine c_X9_handing (d := 29) (g_X9_handing_0 (by decide) ?_)
        simp only [if_pos (y2 J)]
        refine tree_no hk (fun s => hJ _ _ (by unfold scrXr scrX; omega)) (fun s => hJ _ _ (by unfold scrXr scrX; omega)) hM.1.1 hA.1.2 ?_ ?_ ?_
        · rintro rfl; exact oM_no (xsm_refl _ _) (by decide) (by decide)
        · rintro rfl; exact oM_no (xsm_refl _ _) (by decide) (by decide)
        · rintro rfl; exact oM_no (xsm_refl _ _) (by decide) (by decide)
    · have pl8 : ∀ i, tn (L (71 + s) i) < 8 := fun i => by rcases tn_cases (L (71 + s) i) with ⟨a, _⟩ | ⟨a, _⟩ <;> omega
      have j64 : ∀ J : xI, (∀ i, i < ab_n A → J 64 i = tv (L 60 (s * 40 + i))) → ∀ i, i < ab_n A → J 64 i = if tn (L (71 + s) i) = 7 then -1 else Int32.ofNat (tn (L (71 + s) i)) := fun J j i hi => by rw [j i hi, hrow i (by omega)]; rfl
      have start : ∀ (F : xQ), (∀ J : xI, xsm (xAt 64) I J → (∀ i, i < ab_n A → J 64 i = if tn (L (71 + s) i) = 7 then -1 else Int32.ofNat (tn (L (71 + s) i))) → h_X8_handing_43 29 F (0, 0) J L z (Int32.ofNat s) a2 0 (wrA (ab_n A) (fun i => tn (L (71 + s) i)) 0)) → xCd 30 162 [.ref 9, .int (Int32.ofNat s), .int a2] (xS I L z) F := by
        intro F hF
        refine c_X8_handing (d := 29) (g_X8_handing_0 (by decide) ?_)
        rw [if_neg n0, if_neg n2]
        refine xuse (t_told hs hv hm h58 h59 (h.1.2.2.2.1 s hs) h67 hn hA.1.2 nm) (by decide) ?_
        rintro _ _ ⟨rfl, J, rfl, hJ, k64⟩
        refine g_X8_handing_21 (by decide) ?_
        rw [if_pos rfl]
        refine xuse (t_wrongX (n := ab_n A) (pl := fun i => tn (L (71 + s) i)) ((hJ 10 0 (by unfold xAt; omega)).trans hn) hA.1.2 (j64 J k64) pl8) (by decide) ?_
        rintro _ _ ⟨rfl, rfl⟩
        exact hF J hJ (j64 J k64)
      have startM : ∀ (F : xQ) (J : xI), xsm scrXr I J → xTM J 66 A → (∀ K : xI, xsm (xAt 109) J K → (wrA (ab_n A) (fun i => tn (L (71 + s) i)) 0 = -1 → ∀ i, i < ab_n A → K 109 i = Int32.ofNat (tn (L (71 + s) i))) → h_X9_handing_53 29 F (0, 0) K L z (Int32.ofNat s) a2 0 (wrA (ab_n A) (fun i => tn (L (71 + s) i)) 0)) → xCd 30 276 [.ref 66, .int (Int32.ofNat s), .int a2] (xS J L z) F := by
        intro F J hJ hM hF
        refine c_X9_handing (d := 29) (g_X9_handing_0 (by decide) ?_)
        simp only [if_pos (y2 J)]
        refine tree_yes hs (by rw [hJ _ _ (by unfold scrXr scrX; omega)]; exact h67) (by rw [hJ _ _ (by unfold scrXr scrX; omega)]; exact h69) hm hM.1.1 nm ?_
        rw [xv_clamp (by omega)]
        refine xuse (t_wrongM hs hM.1.1 hA.1.1 hA.1.2) (by decide) ?_
        rintro _ _ ⟨rfl, K, rfl, hK, k109⟩
        exact hF K hK k109
      obtain ⟨t, t1, t2⟩ := h.2.2.2.2
      have c64 : ∀ J : xI, xsm (xAt 64) I J → xCache A J := fun J hJ => xCache_sm hJ (fun o k e => by unfold xAt at e; unfold noC; omega) h.2.2.2.1
      have s64 : ∀ J : xI, xsm (xAt 64) I J → xsm scrX I J := fun J hJ => xsm_mono hJ (fun o k e => by unfold xAt at e; unfold scrX; omega)
      have t64 : ∀ J : xI, xsm (xAt 64) I J → xTal t J := fun J hJ => xTal_sm hJ (fun o k e => by unfold xAt at e; omega) t2
      have X64 : ∀ J : xI, xsm (xAt 64) I J → xTX J 10 A := fun J hJ => xTX_sm hJ (fun k hk => by unfold xAt; omega) (fun o a b k => by unfold xAt; omega) h.1.2.1
      have s109 : ∀ J K : xI, xsm (xAt 109) J K → xsm scrM J K := fun J K hK => xsm_mono hK (fun o k e => by unfold xAt at e; unfold scrM; omega)
      have M109 : ∀ J K : xI, xsm (xAt 109) J K → xTM J 66 A → xTM K 66 A := fun J K hK => xTM_sm hK (by unfold xAt; omega) (fun o a b k => by unfold xAt; omega)
      by_cases ok : wrA (ab_n A) (fun i => tn (L (71 + s) i)) 0 = -1
      · have hk := wrA_no h6 (ab_n A) 0 (by omega) ok
        have hp : hnd (ab_n A) (fun i => tn (L (71 + s) i)) := ⟨fun i hi => (of_decide_eq_true (hk i (Nat.zero_le _) hi)).1, fun i hi => (of_decide_eq_true (hk i (Nat.zero_le _) hi)).2⟩
        have q64 : ∀ J : xI, (∀ i, i < ab_n A → J 64 i = if tn (L (71 + s) i) = 7 then -1 else Int32.ofNat (tn (L (71 + s) i))) → ∀ i, i < ab_n A → J 64 i = Int32.ofNat (tn (L (71 + s) i)) := fun J j i hi => by
          have b : tn (L (71 + s) i) < ab_n A := hp.1 i hi
          have q := j i hi
          rw [if_neg (by omega)] at q
          exact q
        have hw : a2.toInt = 0 ∨ a2.toInt = 1 ∨ a2.toInt = 2 := by omega
        rcases hw with e | e | e
        · have e : a2 = 0 := Int32.toInt_inj.mp e
          subst e
          refine pr_q h 0 (Int32.ofNat (aMn A (fun i => tn (L (71 + s) i)) (ab_n A))) ?_ ?_
          · refine start _ (fun J hJ k64 => g_X8_handing_43 (by decide) ?_)
            rw [if_pos ok, if_neg (by decide)]
            refine xuse (t_refresh hA (X64 J hJ) (xShf_sm hJ (fun k => by unfold xAt; omega) h.2.1) (c64 J hJ)) (by decide) ?_
            rintro _ _ ⟨rfl, K, rfl, hK, hF⟩
            refine g_X8_handing_78 (by decide) ?_
            rw [if_pos rfl]
            refine xuse (t_meanX (pl := fun i => tn (L (71 + s) i)) hA (xTX_W hK (X64 J hJ)) hF.2.2.2 (fun i hi => by rw [hK 64 i (by unfold scrW; omega)]; exact q64 J k64 i hi) hp.1) (by decide) ?_
            rintro _ _ ⟨rfl, rfl⟩
            refine g_X8_handing_93 (by decide) (g_X8_handing_107 (by decide) ?_)
            exact oX_ok (xsm_trans (s64 J hJ) (xsm_mono hK scrW_X)) (xCache_of hF) (xTal_sm hK (fun o k e => by unfold scrW at e; omega) (t64 J hJ)) (by omega)
          · intro J hJ hM
            refine startM _ J hJ hM (fun K hK k109 => g_X9_handing_53 (by decide) ?_)
            rw [if_pos ok, if_pos rfl]
            refine xuse (t_findPossibleM hA (M109 J K hK hM)) (by decide) ?_
            rintro _ _ ⟨rfl, K', rfl, hK', hR⟩
            refine g_X9_handing_100 (by decide) ?_
            refine xuse (t_meanM (pl := fun i => tn (L (71 + s) i)) hA (xTM_F hK' (M109 J K hK hM)) hR (fun i hi => by rw [hK' 109 i (by unfold scrF; omega)]; exact k109 ok i hi) hp.1) (by decide) ?_
            rintro _ _ ⟨rfl, rfl⟩
            exact g_X9_handing_108 (by decide) (oM_ok (xsm_trans (s109 J K hK) (xsm_mono hK' scrF_M)))
        · have e : a2 = 1 := Int32.toInt_inj.mp e
          subst e
          refine pr_q h 0 (aSwp A (fun i => tn (L (71 + s) i))) ?_ ?_
          · refine start _ (fun J hJ k64 => g_X8_handing_43 (by decide) ?_)
            rw [if_pos ok, if_pos rfl]
            refine xuse (t_swapsOf (pl := fun i => tn (L (71 + s) i)) hA (X64 J hJ) (q64 J k64) hp) (by decide) ?_
            rintro _ _ ⟨rfl, K, rfl, hK, _⟩
            refine g_X8_handing_70 (by decide) ?_
            exact oX_ok (xsm_trans (s64 J hJ) (xsm_mono hK (fun o k e => by unfold scrSX4 at e; unfold scrX; omega))) (xCache_sm hK (fun o k e => by unfold scrSX4 at e; unfold noC; omega) (c64 J hJ)) (xTal_sm hK (fun o k e => by unfold scrSX4 at e; omega) (t64 J hJ)) (by omega)
          · intro J hJ hM
            refine startM _ J hJ hM (fun K hK k109 => g_X9_handing_53 (by decide) ?_)
            rw [if_pos ok, if_neg (by decide), if_pos rfl]
            have hK2 : xsm scrSM K (xw K 66 41 (-1)) := xsm_xw (Or.inr ⟨rfl, rfl⟩) (xsm_refl _ _)
            refine xuse (t_seekM (pl := fun i => tn (L (71 + s) i)) (J := xw K 66 41 (-1)) hA (xTM_sm hK2 (by unfold scrSM; omega) (fun o a b k => by unfold scrSM; omega) (M109 J K hK hM)) (fun i hi => by rw [xw_ne1 (by decide)]; exact k109 ok i hi) hp (ab_n A) 0 (by omega) (xw K 66 41 (-1)) 0 (fun _ => 0) (-1) (xsm_refl _ _) (xw_eq _ _ _ _) (fun j hj => absurd hj (Nat.not_lt_zero _)) (fun j hj => absurd hj (Nat.not_lt_zero _)) (by decide)) (by omega) ?_
            rintro _ _ ⟨rfl, K', rfl, hK', k7, _⟩
            refine g_X9_handing_120 (by decide) ?_
            rw [k7]
            exact oM_ok (xsm_trans (s109 J K hK) (xsm_mono (xsm_trans hK2 hK') (fun o k e => by unfold scrSM at e; unfold scrM; omega)))
        · have e : a2 = 2 := Int32.toInt_inj.mp e
          subst e
          refine pr_q h 0 (Int32.ofNat (aCo A (fun i => tn (L (71 + s) i)) (ab_n A))) ?_ ?_
          · refine start _ (fun J hJ k64 => g_X8_handing_43 (by decide) ?_)
            rw [if_pos ok, if_neg (by decide)]
            refine xuse (t_refresh hA (X64 J hJ) (xShf_sm hJ (fun k => by unfold xAt; omega) h.2.1) (c64 J hJ)) (by decide) ?_
            rintro _ _ ⟨rfl, K, rfl, hK, hF⟩
            refine g_X8_handing_78 (by decide) ?_
            rw [if_neg (by decide)]
            refine xuse (t_costX (pl := fun i => tn (L (71 + s) i)) hA (xTX_W hK (X64 J hJ)) (fun i hi => by rw [hK 64 i (by unfold scrW; omega)]; exact q64 J k64 i hi) hp.1) (by decide) ?_
            rintro _ _ ⟨rfl, rfl⟩
            refine g_X8_handing_107 (by decide) ?_
            exact oX_ok (xsm_trans (s64 J hJ) (xsm_mono hK scrW_X)) (xCache_of hF) (xTal_sm hK (fun o k e => by unfold scrW at e; omega) (t64 J hJ)) (by omega)
          · intro J hJ hM
            refine startM _ J hJ hM (fun K hK k109 => g_X9_handing_53 (by decide) ?_)
            rw [if_pos ok, if_neg (by decide), if_neg (by decide)]
            exact h_costM (pl := fun i => tn (L (71 + s) i)) hA (M109 J K hK hM) (k109 ok) hp.1 (oM_ok (s109 J K hK))
      · refine pr_q h 5 0 ?_ ?_
        · refine start _ (fun J hJ k64 => g_X8_handing_43 (by decide) ?_)
          rw [if_neg ok]
          exact oX_no2 (s64 J hJ) (c64 J hJ) (t64 J hJ) (by omega) (by decide) (by decide)
        · intro J hJ hM
          refine startM _ J hJ hM (fun K hK k109 => g_X9_handing_53 (by decide) ?_)
          rw [if_neg ok]
          exact oM_no (s109 J K hK) (by decide) (by decide)
  · refine pr_q h 2 0 ?_ ?_
    · refine c_X8_handing (d := 29) (g_X8_handing_0 (by decide) ?_)
      by_cases n0 : a2 < 0
      · rw [if_pos n0]; exact oX_no h (by decide) (by decide)
      · have n2 : 2 < a2 := l2.mpr (by
          have : ¬ a2.toInt < 0 := fun q => n0 (l0.mpr q)
          omega)
        rw [if_neg n0, if_pos n2]; exact oX_no h (by decide) (by decide)
    · intro J hJ hM
      refine c_X9_handing (d := 29) (g_X9_handing_0 (by decide) ?_)
      have y2 : ¬ p_X9_in J L (Int32.toInt64 a2) (Int64.ofNat 0) (Int64.ofNat 2) := fun q => by have := (p2 J).mp q; omega
      simp only [if_neg y2]
      split <;> exact oM_no (xsm_refl _ _) (by decide) (by decide)
