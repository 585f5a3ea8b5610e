/-! questions, the class's side: counts by sorts -/
def aHv (A : xAb) (p k v : Nat) : Nat := (aP A).countP (fun w => decide (aNum A k (wd w p) = v))
def aSplit (A : xAb) (p k : Nat) : Nat → Nat
  | 0 => 0
  | v + 1 => aSplit A p k v + (if 0 < aHv A p k v then 1 else 0)
def aWorst (A : xAb) (p k : Nat) : Nat → Nat
  | 0 => 0
  | v + 1 => if aWorst A p k v < aHv A p k v then aHv A p k v else aWorst A p k v
theorem aSt_le (A : xAb) (p s : Nat) : aSt A p s ≤ (aP A).length := by
  unfold aSt
  split
  · exact List.countP_le_length
  · exact Nat.zero_le _
theorem aHv_le (A : xAb) (p k v : Nat) : aHv A p k v ≤ (aP A).length := List.countP_le_length
theorem aWorst_le (A : xAb) (p k : Nat) : ∀ i, aWorst A p k i ≤ (aP A).length
  | 0 => Nat.zero_le _
  | i + 1 => by
    have := aWorst_le A p k i
    have := aHv_le A p k i
    simp only [aWorst]
    split <;> omega
theorem aSplit_le (A : xAb) (p k : Nat) : ∀ i, aSplit A p k i ≤ i
  | 0 => Nat.le_refl _
  | i + 1 => by
    have := aSplit_le A p k i
    simp only [aSplit]
    split <;> omega
theorem aHv_sum {A : xAb} (hA : abOK A) {p k v : Nat} (hp : p < ab_n A) : aHv A p k v = sum6 (fun s => if aNum A k s = v then aSt A p s else 0) 6 := by
  have h6 := hA.1.2
  have q := cp_split (l := aP A) (d := fun w => wd w p) (Q := fun s => decide (aNum A k s = v)) (fun w hw => (aW_wd hA (aP_mem.mp hw).1 (by omega)).1)
  unfold aHv
  rw [q]
  refine sum6_congr 6 fun s _ => ?_
  unfold aSt
  rw [if_pos hp]
  by_cases e : aNum A k s = v
  · rw [if_pos e, if_pos (decide_eq_true e)]
  · rw [if_neg e, if_neg (by rw [decide_eq_false e]; decide)]
theorem t_howManyHave {A : xAb} {I : xI} {L : xL} {z : Bool × Bool × Nat} {p k v : Nat} (hA : abOK A) (hX : xTX I 10 A) (hP : xPos A I) (hp : p < ab_n A) (hk : k < 4) (hv : v < 2147483648) : xCd 2 126 [.ref 37, .int (Int32.ofNat p), .int (Int32.ofNat k), .int (Int32.ofNat v)] (xS I L z) (qP I L z (Int32.ofNat (aHv A p k v))) := by
  have h6 := hA.1.2
  refine c_X7_howManyHave (g_X7_howManyHave_0 (by decide) ?_)
  rw [aHv_sum hA hp]
  have key : ∀ s, s ≤ 6 → h_X7_howManyHave_6 1 (qP I L z (Int32.ofNat (sum6 (fun s => if aNum A k s = v then aSt A p s else 0) 6))) (0, 0) I L z (Int32.ofNat p) (Int32.ofNat k) (Int32.ofNat v) (Int32.ofNat (sum6 (fun s => if aNum A k s = v then aSt A p s else 0) s)) (Int32.ofNat s) := by
    refine xcount _ 6 ?_ ?_
    · intro s hs K
      refine g_X7_howManyHave_6 (by decide) ?_
      have hn := aNum_lt hA hs hk
      rw [f_num hX hk hs, f_stand hP (by omega) (by omega)]
      simp (disch := omega) only [xl_0, xl_1, xl_2, xl_3, xl_4, xl_5, xl_6, xl_7, xl_8, xl_9, xl_10, xl_15, xl_18, xl_24, xl_31, xl_32, xl_36, xl_40, xl_48, xl_63, xl_64, xl_144, xl_250, xl_320, xl_720, xl_721, xl_1000, xl_1023, xl_1024, xv_lt, xv_eq, xv_in, xv_clamp, xv_add, xv_mul, xv_dec, xv_div, xv_mod, xv_m1, xv_m1', xv_and, xv_or, xv_shl, xv_shr, xv_bit0, xv_bit1, hs, if_true]
      simp only [sum6] at K
      by_cases e : aNum A k s = v
      · rw [if_pos e] at K ⊢; exact K
      · rw [if_neg e] at K ⊢; exact K
    · refine g_X7_howManyHave_6 (by decide) ?_
      rw [if_neg (by decide)]
      exact ⟨rfl, rfl⟩
  exact key 0 (by decide)
theorem t_splitX {A : xAb} {I : xI} {L : xL} {z : Bool × Bool × Nat} {p k : Nat} (hA : abOK A) (hX : xTX I 10 A) (hP : xPos A I) (hp : p < ab_n A) (hk : k < 4) : xCd 3 18 [.ref 43, .int (Int32.ofNat p), .int (Int32.ofNat k)] (xS I L z) (qP I L z (Int32.ofNat (aSplit A p k 10))) := by
  have hl := aP_len hA
  refine c_X1_splitOf (g_X1_splitOf_0 (by decide) ?_)
  have key : ∀ v, v ≤ 10 → h_X1_splitOf_5 2 (qP I L z (Int32.ofNat (aSplit A p k 10))) (0, 0) I L z (Int32.ofNat p) (Int32.ofNat k) (Int32.ofNat (aSplit A p k v)) (Int32.ofNat v) := by
    refine xcount _ 10 ?_ ?_
    · intro v hv K
      refine g_X1_splitOf_5 (by decide) ?_
      rw [if_neg (show ¬ (9 : Int32) < Int32.ofNat v from fun q => by have := (xv_lt (a := 9) (by decide) (by omega)).mp q; omega)]
      refine xuse (t_howManyHave hA hX hP hp hk (by omega)) (by decide) ?_
      rintro _ _ ⟨rfl, rfl⟩
      refine g_X1_splitOf_23 (by decide) ?_
      have := aHv_le A p k v
      simp (disch := omega) only [xl_0, xl_1, xl_2, xl_3, xl_4, xl_5, xl_6, xl_7, xl_8, xl_9, xl_10, xl_15, xl_18, xl_24, xl_31, xl_32, xl_36, xl_40, xl_48, xl_63, xl_64, xl_144, xl_250, xl_320, xl_720, xl_721, xl_1000, xl_1023, xl_1024, xv_lt, xv_eq, xv_in, xv_clamp, xv_add, xv_mul, xv_dec, xv_div, xv_mod, xv_m1, xv_m1', xv_and, xv_or, xv_shl, xv_shr, xv_bit0, xv_bit1]
      simp only [aSplit] at K
      by_cases e : 0 < aHv A p k v
      · rw [if_pos e] at K ⊢; exact K
      · rw [if_neg e] at K ⊢; exact K
    · refine g_X1_splitOf_5 (by decide) ?_
      rw [if_pos (by decide)]
      exact ⟨rfl, rfl⟩
  exact key 0 (by decide)
theorem t_worstX {A : xAb} {I : xI} {L : xL} {z : Bool × Bool × Nat} {p k : Nat} (hA : abOK A) (hX : xTX I 10 A) (hP : xPos A I) (hp : p < ab_n A) (hk : k < 4) : xCd 3 19 [.ref 43, .int (Int32.ofNat p), .int (Int32.ofNat k)] (xS I L z) (qP I L z (Int32.ofNat (aWorst A p k 10))) := by
  have hl := aP_len hA
  refine c_X1_worstOf (g_X1_worstOf_0 (by decide) ?_)
  have key : ∀ v, v ≤ 10 → h_X1_worstOf_5 2 (qP I L z (Int32.ofNat (aWorst A p k 10))) (0, 0) I L z (Int32.ofNat p) (Int32.ofNat k) (Int32.ofNat (aWorst A p k v)) (Int32.ofNat v) := by
    refine xcount _ 10 ?_ ?_
    · intro v hv K
      refine g_X1_worstOf_5 (by decide) ?_
      rw [if_neg (show ¬ (9 : Int32) < Int32.ofNat v from fun q => by have := (xv_lt (a := 9) (by decide) (by omega)).mp q; omega)]
      refine xuse (t_howManyHave hA hX hP hp hk (by omega)) (by decide) ?_
      rintro _ _ ⟨rfl, rfl⟩
      refine g_X1_worstOf_24 (by decide) ?_
      have := aHv_le A p k v
      have := aWorst_le A p k v
      simp (disch := omega) only [xl_0, xl_1, xl_2, xl_3, xl_4, xl_5, xl_6, xl_7, xl_8, xl_9, xl_10, xl_15, xl_18, xl_24, xl_31, xl_32, xl_36, xl_40, xl_48, xl_63, xl_64, xl_144, xl_250, xl_320, xl_720, xl_721, xl_1000, xl_1023, xl_1024, xv_lt, xv_eq, xv_in, xv_clamp, xv_add, xv_mul, xv_dec, xv_div, xv_mod, xv_m1, xv_m1', xv_and, xv_or, xv_shl, xv_shr, xv_bit0, xv_bit1]
      simp only [aWorst] at K
      by_cases e : aWorst A p k v < aHv A p k v
      · rw [if_pos e] at K ⊢; exact K
      · rw [if_neg e] at K ⊢; exact K
    · refine g_X1_worstOf_5 (by decide) ?_
      rw [if_pos (by decide)]
      exact ⟨rfl, rfl⟩
  exact key 0 (by decide)
/-- the best so far: what, and with how many left -/
def aNx (A : xAb) (ks : Nat) : Nat → Option (Nat × Nat)
  | 0 => none
  | i + 1 => if ks.testBit (i % 4) = true then (match aNx A ks i with
    | none => some (10 * (i / 4) + i % 4, aWorst A (i / 4) (i % 4) 10)
    | some (f, l) => if aWorst A (i / 4) (i % 4) 10 < l then some (10 * (i / 4) + i % 4, aWorst A (i / 4) (i % 4) 10) else some (f, l)) else aNx A ks i
def nxA (o : Option (Nat × Nat)) : Int32 := match o with
  | none => -1
  | some (f, _) => Int32.ofNat f
def nxB (o : Option (Nat × Nat)) (d : Int32) : Int32 := match o with
  | none => d
  | some (_, l) => Int32.ofNat l
theorem aNx_ok (A : xAb) (ks : Nat) : ∀ i f l, aNx A ks i = some (f, l) → l ≤ (aP A).length ∧ ∃ j, j < i ∧ f = 10 * (j / 4) + j % 4 ∧ l = aWorst A (j / 4) (j % 4) 10 ∧ ks.testBit (j % 4) = true
  | 0, f, l, h => by simp [aNx] at h
  | i + 1, f, l, h => by
    have ih := aNx_ok A ks i
    simp only [aNx] at h
    by_cases e : ks.testBit (i % 4) = true
    · rw [if_pos e] at h
      have w := aWorst_le A (i / 4) (i % 4) 10
      cases q : aNx A ks i with
      | none =>
        rw [q] at h
        simp only [Option.some.injEq, Prod.mk.injEq] at h
        exact ⟨by omega, i, by omega, by omega, by omega, e⟩
      | some g =>
        obtain ⟨f', l'⟩ := g
        rw [q] at h
        simp only at h
        by_cases c : aWorst A (i / 4) (i % 4) 10 < l'
        · rw [if_pos c] at h
          simp only [Option.some.injEq, Prod.mk.injEq] at h
          exact ⟨by omega, i, by omega, by omega, by omega, e⟩
        · rw [if_neg c] at h
          simp only [Option.some.injEq, Prod.mk.injEq] at h
          obtain ⟨rfl, rfl⟩ := h
          obtain ⟨a, j, b1, b2, b3, b4⟩ := ih _ _ q
          exact ⟨a, j, by omega, b2, b3, b4⟩
    · rw [if_neg e] at h
      obtain ⟨a, j, b1, b2, b3, b4⟩ := ih _ _ h
      exact ⟨a, j, by omega, b2, b3, b4⟩
theorem t_nextX {A : xAb} {I : xI} {L : xL} {z : Bool × Bool × Nat} {ks : Nat} (hA : abOK A) (hX : xTX I 10 A) (hP : xPos A I) (hk : ks < 16) : xCd 4 20 [.ref 43, .int (Int32.ofNat ks)] (xS I L z) (qP I L z (nxA (aNx A ks (ab_n A * 4)))) := by
  have h6 := hA.1.2
  have hl := aP_len hA
  have nn := hX.1.1
  refine c_X1_nextOf (g_X1_nextOf_0 (by decide) ?_)
  have key : ∀ p, p ≤ ab_n A → h_X1_nextOf_9 3 (qP I L z (nxA (aNx A ks (ab_n A * 4)))) (0, 0) I L z (Int32.ofNat ks) (nxA (aNx A ks (p * 4))) (nxB (aNx A ks (p * 4)) 721) (Int32.ofNat p) := by
    refine xcount _ (ab_n A) ?_ ?_
    · intro p hp K
      refine g_X1_nextOf_9 (by decide) ?_
      rw [nn, if_pos ((xv_lt (by omega) (by omega)).mpr hp)]
      have key2 : ∀ k, k ≤ 4 → h_X1_nextOf_24 3 (qP I L z (nxA (aNx A ks (ab_n A * 4)))) (0, 0) I L z (Int32.ofNat ks) (nxA (aNx A ks (p * 4 + k))) (nxB (aNx A ks (p * 4 + k)) 721) (Int32.ofNat p) (Int32.ofNat k) := by
        refine xcount _ 4 ?_ ?_
        · intro k hk4 K2
          refine g_X1_nextOf_24 (by decide) ?_
          have e1 : (p * 4 + k) / 4 = p := by omega
          have e2 : (p * 4 + k) % 4 = k := by omega
          rw [if_pos (show Int32.ofNat k < (4 : Int32) from (xv_lt (b := 4) (by omega) (by decide)).mpr hk4)]
          rw [show p * 4 + (k + 1) = (p * 4 + k) + 1 from by omega] at K2
          simp only [aNx, e1, e2] at K2
          have cnd : (((Int32.ofNat ks >>> (Int32.ofNat k &&& 31)) &&& 1) = 1) ↔ ks.testBit k = true := by
            rw [show (31 : Int32) = Int32.ofNat 31 from rfl, show (1 : Int32) = Int32.ofNat 1 from rfl, xv_and, xv_shr (by omega) (by omega), xv_and]
            exact xv_bit1
          by_cases e : ks.testBit k = true
          · rw [if_pos (cnd.mpr e)]
            rw [if_pos e] at K2
            refine xuse (t_worstX hA hX hP hp hk4) (by decide) ?_
            rintro _ _ ⟨rfl, rfl⟩
            refine g_X1_nextOf_48 (by decide) ?_
            have w := aWorst_le A p k 10
            have e3 : (10 : Int32) * Int32.ofNat p + Int32.ofNat k = Int32.ofNat (10 * p + k) := by
              rw [show (10 : Int32) = Int32.ofNat 10 from rfl, xv_mul, xv_add]
            rw [e3, show Int32.ofNat k + 1 = Int32.ofNat (k + 1) from xv_add k 1]
            cases q : aNx A ks (p * 4 + k) with
            | none =>
              rw [q] at K2
              rw [if_pos (show Int32.ofNat (aWorst A p k 10) < nxB none (721 : Int32) from (xv_lt (b := 721) (by omega) (by decide)).mpr (by omega))]
              exact K2
            | some g =>
              obtain ⟨f, l⟩ := g
              rw [q] at K2
              have ol := (aNx_ok A ks _ _ _ q).1
              simp only at K2
              show (if Int32.ofNat (aWorst A p k 10) < Int32.ofNat l then _ else _)
              by_cases c : aWorst A p k 10 < l
              · rw [if_pos ((xv_lt (by omega) (by omega)).mpr c)]
                rw [if_pos c] at K2
                exact K2
              · rw [if_neg (fun x => c ((xv_lt (by omega) (by omega)).mp x))]
                rw [if_neg c] at K2
                exact K2
          · rw [if_neg (fun x => e (cnd.mp x))]
            rw [if_neg e] at K2
            rw [if_neg (fun x => Int32.lt_irrefl x), show Int32.ofNat k + 1 = Int32.ofNat (k + 1) from xv_add k 1]
            exact K2
        · refine g_X1_nextOf_24 (by decide) ?_
          rw [if_neg (by decide), show Int32.ofNat p + 1 = Int32.ofNat (p + 1) from xv_add p 1, show p * 4 + 4 = (p + 1) * 4 from by omega]
          exact K
      exact key2 0 (by decide)
    · refine g_X1_nextOf_9 (by decide) ?_
      rw [nn, if_neg (fun q => Nat.lt_irrefl _ ((xv_lt (by omega) (by omega)).mp q))]
      exact ⟨rfl, rfl⟩
  exact key 0 (by omega)
