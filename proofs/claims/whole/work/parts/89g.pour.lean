/-! promises: pour -/
def allS (pl : Nat → Nat) : Nat → Bool
  | 0 => true
  | i + 1 => allS pl i && decide (pl i < 6)
theorem allS_iff {pl : Nat → Nat} : ∀ n, allS pl n = true ↔ ∀ i, i < n → pl i < 6
  | 0 => by simp [allS]
  | n + 1 => by
    have ih := allS_iff (pl := pl) n
    simp only [allS]
    rw [Bool.and_eq_true, ih, decide_eq_true_iff]
    constructor
    · rintro ⟨a, b⟩ i hi
      by_cases e : i = n
      · rw [e]; exact b
      · exact a i (by omega)
    · intro a
      exact ⟨fun i hi => a i (by omega), a n (by omega)⟩
theorem t_sortsX_no {n k : Nat} {I : xI} {L : xL} {z : Bool × Bool × Nat} {a : Int32} (h2 : 2 ≤ k) (h4 : k ≤ 4) (hk : tfk n I a k) (hsh : ∀ s, s < 8 → xShM I L s) (hn : I 10 0 = Int32.ofNat n) (n2 : 2 ≤ n) (n6 : n ≤ 6) : xCd 5 179 [.ref 9, .int a] (xS I L z) (qP I L z (-(Int32.ofNat k))) := by
  refine c_X8_faultOfSorts (d := 4) (g_X8_faultOfSorts_0 (by decide) ?_)
  refine xuse (t_told_no hk hsh hn n6) (by decide) ?_
  rintro _ _ ⟨rfl, rfl⟩
  refine g_X8_faultOfSorts_5 (by decide) (g_X8_faultOfSorts_8 (by decide) ?_)
  rw [if_pos (by decide), if_pos (by rw [hn]; exact (xv_lt (a := 0) (by decide) (by omega)).mpr (by omega)), if_neg (fun q => by
    rw [show (0 : Int32) = Int32.ofNat 0 from rfl, xv_m1' (by decide) (by omega) (by omega)] at q
    exact q.elim)]
  exact ⟨rfl, rfl⟩
theorem t_sortsX {n m v s : Nat} {I : xI} {L : xL} {z : Bool × Bool × Nat} (hs : s < 8) (hv : v < 5) (hm : m ≤ 40) (h58 : I 58 s = Int32.ofNat v) (h59 : I 59 s = Int32.ofNat m) (hsh : xShM I L s) (h67 : I 67 s = 1) (hn : I 10 0 = Int32.ofNat n) (n6 : n ≤ 6) (nm : n ≤ m) (hrow : ∀ i, i < m → L 60 (s * 40 + i) = L (71 + s) i) : xCd 5 179 [.ref 9, .int (Int32.ofNat s)] (xS I L z) (qV (xAt 64) I L z (if allS (fun i => tn (L (71 + s) i)) n = true then 0 else -2) (fun J => ∀ i, i < n → J 64 i = tv (L (71 + s) i))) := by
  refine c_X8_faultOfSorts (d := 4) (g_X8_faultOfSorts_0 (by decide) ?_)
  refine xuse (t_told hs hv hm h58 h59 hsh h67 hn n6 nm) (by decide) ?_
  rintro _ _ ⟨rfl, J, rfl, hJ, j64'⟩
  have j64 : ∀ i, i < n → J 64 i = tv (L (71 + s) i) := fun i hi => by rw [j64' i hi, hrow i (by omega)]
  have jn : J 10 0 = Int32.ofNat n := (hJ 10 0 (by unfold xAt; omega)).trans hn
  refine g_X8_faultOfSorts_5 (by decide) ?_
  have key : ∀ i, i ≤ n → h_X8_faultOfSorts_8 4 (qV (xAt 64) I L z (if allS (fun i => tn (L (71 + s) i)) n = true then 0 else -2) (fun J => ∀ i, i < n → J 64 i = tv (L (71 + s) i))) (0, 0) J L z (Int32.ofNat s) (if allS (fun i => tn (L (71 + s) i)) i = true then 0 else -2) (Int32.ofNat i) := by
    have fin : ∀ i, i ≤ n → allS (fun i => tn (L (71 + s) i)) i = false → allS (fun i => tn (L (71 + s) i)) n = false := by
      intro i hi e
      cases q : allS (fun i => tn (L (71 + s) i)) n
      · rfl
      · have := (allS_iff n).mp q
        rw [(allS_iff i).mpr (fun j hj => this j (by omega))] at e
        exact e
    refine xcount _ n ?_ ?_
    · intro i hi KK
      refine g_X8_faultOfSorts_8 (by decide) ?_
      rw [if_pos (show Int32.ofNat i < (6 : Int32) from (xv_lt (b := 6) (by omega) (by decide)).mpr (by omega)), if_pos (show Int32.ofNat i < J 10 0 by rw [jn]; exact (xv_lt (by omega) (by omega)).mpr hi)]
      cases q : allS (fun i => tn (L (71 + s) i)) i
      · rw [if_neg (show ¬ ((if false = true then 0 else -2 : Int32)) = 0 from by decide), fin i (by omega) q]
        exact ⟨rfl, J, rfl, hJ, j64⟩
      · rw [if_pos (show ((if true = true then 0 else -2 : Int32)) = 0 from rfl), if_pos ((xv_in (by omega)).mpr (by omega))]
        simp only [xv_clamp (show i < 2147483648 by omega)]
        rw [j64 i hi, show Int32.ofNat i + 1 = Int32.ofNat (i + 1) from xv_add i 1]
        have st : allS (fun i => tn (L (71 + s) i)) (i + 1) = (allS (fun i => tn (L (71 + s) i)) i && decide (tn (L (71 + s) i) < 6)) := rfl
        rw [st, q, Bool.true_and] at KK
        rcases tn_cases (L (71 + s) i) with ⟨a, b⟩ | ⟨a, b, d⟩
        · rw [decide_eq_false (by omega), if_neg (show ¬ (false = true) from by decide)] at KK
          have tx : tv (L (71 + s) i) = -1 := by unfold tv; rw [if_pos a]
          rw [if_neg (fun x => by
            have x := xi_sort.mp x
            rw [tx, show ((-1 : Int32)).toInt = -1 from rfl] at x
            omega)]
          exact KK
        · rw [decide_eq_true a, if_pos (show true = true from rfl)] at KK
          have tx : tv (L (71 + s) i) = Int32.ofNat (tn (L (71 + s) i)) := by unfold tv; rw [if_neg (by omega)]
          rw [if_pos (xi_sort.mpr (by rw [tx, xv_int (by omega)]; omega))]
          exact KK
    · refine g_X8_faultOfSorts_8 (by decide) ?_
      have no : ¬ Int32.ofNat n < J 10 0 := by
        rw [jn]; exact fun q => absurd ((xv_lt (by omega) (by omega)).mp q) (Nat.lt_irrefl _)
      by_cases c : Int32.ofNat n < (6 : Int32)
      · rw [if_pos c, if_neg no]; exact ⟨rfl, J, rfl, hJ, j64⟩
      · rw [if_neg c]; exact ⟨rfl, J, rfl, hJ, j64⟩
  exact key 0 (Nat.zero_le _)
theorem t_sortsM {n s : Nat} {J : xI} {L : xL} {z : Bool × Bool × Nat} (hs : s < 8) (hn : J 66 9 = Int32.ofNat n) (n6 : n ≤ 6) : xCd 2 208 [.ref 66, .ref (70 + 1 + s)] (xS J L z) (qP J L z (if allS (fun i => tn (L (71 + s) i)) n = true then 1 else 0)) := by
  refine c_X9_areSorts (d := 1) (g_X9_areSorts_0 (by decide) ?_)
  have key : ∀ i, i ≤ n → allS (fun i => tn (L (71 + s) i)) i = true → h_X9_areSorts_2 1 (qP J L z (if allS (fun i => tn (L (71 + s) i)) n = true then 1 else 0)) (0, 0) J L z (70 + 1 + s) (Int32.ofNat i) := by
    refine xcount _ n ?_ ?_
    · intro i hi KK q
      refine g_X9_areSorts_2 (by decide) ?_
      have xs := xis_shelf (I := J) (L := L) (z := z) hs
      rw [if_pos (show Int32.ofNat i < J 66 9 by rw [hn]; exact (xv_lt (by omega) (by omega)).mpr hi)]
      refine xbifT xs.1 ?_
      rw [xs.2.2, if_pos ((xv_in (by omega)).mpr (by omega))]
      simp only [xv_clamp (show i < 2147483648 by omega)]
      rw [show Int32.ofNat i + 1 = Int32.ofNat (i + 1) from xv_add i 1]
      have hp : p_X9_in J L (L (70 + 1 + s) i) (Int64.ofNat 0) (Int64.ofNat 5) ↔ tn (L (71 + s) i) < 6 := by
        show p_X9_in J L (L (71 + s) i) (Int64.ofNat 0) (Int64.ofNat 5) ↔ _
        rw [xp_in64, show (Int64.ofNat 0).toInt = 0 from rfl, show (Int64.ofNat 5).toInt = 5 from rfl]
        rcases tn_cases (L (71 + s) i) with ⟨a, b⟩ | ⟨a, b, _⟩ <;> omega
      by_cases c : tn (L (71 + s) i) < 6
      · rw [if_pos (hp.mpr c)]
        refine KK ?_
        show (allS (fun i => tn (L (71 + s) i)) i && decide (tn (L (71 + s) i) < 6)) = true
        rw [q, decide_eq_true c]; rfl
      · rw [if_neg (fun x => c (hp.mp x)), if_neg (fun x => c ((allS_iff n).mp x i hi))]
        exact ⟨rfl, rfl⟩
    · intro q
      refine g_X9_areSorts_2 (by decide) ?_
      rw [if_neg (show ¬ Int32.ofNat n < J 66 9 by rw [hn]; exact fun q => absurd ((xv_lt (by omega) (by omega)).mp q) (Nat.lt_irrefl _)), if_pos q]
      exact ⟨rfl, rfl⟩
  exact key 0 (Nat.zero_le _) rfl
/-- a row poured: no more than the cups -/
def rowF (L : xL) (s n : Nat) : Nat → Nat := fun i => if i < n then tn (L (71 + s) i) else 0
theorem rowF_lt {L : xL} {s n : Nat} (h : allS (fun i => tn (L (71 + s) i)) n = true) (k : Nat) : rowF L s n k < 6 := by
  unfold rowF
  by_cases e : k < n
  · rw [if_pos e]; exact (allS_iff n).mp h k e
  · rw [if_neg e]; decide
theorem tv_row {x : Int64} (h : tn x < 6) : tv x = Int32.ofNat (tn x) := by unfold tv; rw [if_neg (by omega)]
theorem t_pourX {n : Nat} {I : xI} {L : xL} {z : Bool × Bool × Nat} {f : Nat → Nat} (hn : I 10 0 = Int32.ofNat n) (n6 : n ≤ 6) (h64 : ∀ i, i < n → I 64 i = Int32.ofNat (f i)) (f0 : ∀ i, n ≤ i → f i = 0) : xCd 2 88 [.ref 10, .ref 64] (xS I L z) (qN (fun o k => o = 11 ∨ o = 12 ∨ (o = 10 ∧ (k = 3 ∨ k = 5 ∨ k = 6))) I L z (fun J => J 10 3 = 0 ∧ J 10 5 = 1 ∧ J 10 6 = 1 ∧ ∀ i, i < 6 → J 11 i = Int32.ofNat (f i) ∧ J 12 i = Int32.ofNat (f i))) := by
  refine c_X6_pourRow (d := 1) (g_X6_pourRow_0 (by decide) ?_)
  have key : ∀ i, i ≤ 6 → ∀ J : xI, xsm (fun o _ => o = 11 ∨ o = 12) I J → (∀ j, j < i → J 11 j = Int32.ofNat (f j) ∧ J 12 j = Int32.ofNat (f j)) → h_X6_pourRow_2 1 (qN (fun o k => o = 11 ∨ o = 12 ∨ (o = 10 ∧ (k = 3 ∨ k = 5 ∨ k = 6))) I L z (fun J => J 10 3 = 0 ∧ J 10 5 = 1 ∧ J 10 6 = 1 ∧ ∀ i, i < 6 → J 11 i = Int32.ofNat (f i) ∧ J 12 i = Int32.ofNat (f i))) (0, 0) J L z 64 (Int32.ofNat i) := by
    refine xcount _ 6 ?_ ?_
    · intro i hi KK J hJ hj
      refine g_X6_pourRow_2 (by decide) ?_
      have jn : J 10 0 = Int32.ofNat n := (hJ 10 0 (by omega)).trans hn
      rw [if_pos (show Int32.ofNat i < (6 : Int32) from (xv_lt (b := 6) (by omega) (by decide)).mpr hi)]
      refine xbifT (show (xalive (112, bif z.1 then 158 else 112, bif z.2.1 then 204 else 158) 64 && Nat.ble 20 (xkind 64) && !(Nat.beq (xkind 64) 24)) = true from rfl) ?_
      rw [show Int32.ofNat (xlen z.2.2 64) = Int32.ofNat 6 from rfl, if_pos ((xv_lt (by omega) (by omega)).mpr hi)]
      have nx : ∀ w : Int32, w = Int32.ofNat (f i) → h_X6_pourRow_2 1 (qN (fun o k => o = 11 ∨ o = 12 ∨ (o = 10 ∧ (k = 3 ∨ k = 5 ∨ k = 6))) I L z (fun J => J 10 3 = 0 ∧ J 10 5 = 1 ∧ J 10 6 = 1 ∧ ∀ i, i < 6 → J 11 i = Int32.ofNat (f i) ∧ J 12 i = Int32.ofNat (f i))) (0, 0) (xw (xw J 11 i w) 12 i w) L z 64 (Int32.ofNat i + 1) := by
        intro w hw
        rw [show Int32.ofNat i + 1 = Int32.ofNat (i + 1) from xv_add i 1]
        refine KK _ (xsm_xw (by omega) (xsm_xw (by omega) hJ)) ?_
        intro j hj2
        rw [xw_ne1 (o := 12) (o' := 11) (by decide)]
        by_cases d : j = i
        · rw [d, xw_eq, xw_eq]; exact ⟨hw, hw⟩
        · rw [xw_ne2 d, xw_ne2 d, xw_ne1 (o := 11) (o' := 12) (by decide)]; exact hj j (by omega)
      by_cases c : i < n
      · rw [if_pos ((xp_hasPlace jn n6).mpr (by rw [xv_int (by omega)]; omega))]
        refine xbifT (show xisi (xS J L z) 64 = true from rfl) ?_
        rw [show xlen z.2.2 64 = 6 from rfl, if_pos ((xv_in (by omega)).mpr hi), if_pos ((xv_in (by omega)).mpr hi)]
        simp only [xv_clamp (show i < 2147483648 by omega)]
        exact nx _ (by rw [hJ 64 i (by omega)]; exact h64 i c)
      · rw [if_neg (fun q => by have := (xp_hasPlace jn n6).mp q; rw [xv_int (by omega)] at this; omega), if_pos ((xv_in (by omega)).mpr hi)]
        simp only [xv_clamp (show i < 2147483648 by omega)]
        exact nx _ (by rw [f0 i (by omega)]; rfl)
    · intro J hJ hj
      refine g_X6_pourRow_2 (by decide) ?_
      rw [if_neg (by decide)]
      refine ⟨rfl, _, rfl, ?_, ?_, ?_, ?_, ?_⟩
      · exact xsm_xw (by omega) (xsm_xw (by omega) (xsm_xw (by omega) (xsm_mono hJ (fun o k e => by omega))))
      · rw [xw_ne2 (by decide), xw_eq]
      · rw [xw_ne2 (by decide), xw_ne2 (by decide), xw_eq]
      · rw [xw_eq]
      · intro i hi
        rw [xw_ne1 (by decide), xw_ne1 (by decide), xw_ne1 (by decide), xw_ne1 (by decide), xw_ne1 (by decide), xw_ne1 (by decide)]
        exact hj i hi
  exact key 0 (by decide) I (xsm_refl _ _) (fun j hj => absurd hj (Nat.not_lt_zero _))
