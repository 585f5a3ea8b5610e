/-! questions, the reference's side -/
theorem t_sortsAtM {A : xAb} {I : xI} {L : xL} {z : Bool × Bool × Nat} {p : Nat} (hA : abOK A) (hR : xRef A I) (hp : p < ab_n A) : xCd 2 247 [.ref 66, .int (Int32.ofNat p)] (xS I L z) (qP I L z (Int32.ofNat (aSb A p 6))) := by
  have h6 := hA.1.2
  have hl := aP_len hA
  refine c_X9_sortsAt (g_X9_sortsAt_0 (by decide) ?_)
  have key : ∀ i, i ≤ (aP A).length → ∀ m, m < 64 → (∀ s, s < 6 → (m.testBit s = true ↔ ∃ j, j < i ∧ wd ((aP A).getD j 0) p = s)) → h_X9_sortsAt_4 1 (qP I L z (Int32.ofNat (aSb A p 6))) (0, 0) I L z (Int32.ofNat p) (Int32.ofNat m) (Int32.ofNat i) := by
    refine xcount _ (aP A).length ?_ ?_
    · intro i hi K m hm hb
      refine g_X9_sortsAt_4 (by decide) ?_
      obtain ⟨x, x1, x2, x3, x4⟩ := xRef_at hA hR hi hp
      have i7 : i < 720 := by omega
      have s6 := aP_wd hA hi (show p < 6 by omega)
      simp (disch := omega) only [xl_0, xl_1, xl_2, xl_3, xl_4, xl_5, xl_6, xl_7, xl_8, xl_9, xl_10, xl_15, xl_18, xl_24, xl_31, xl_32, xl_36, xl_40, xl_48, xl_63, xl_64, xl_144, xl_250, xl_320, xl_720, xl_721, xl_1000, xl_1023, xl_1024, xv_lt, xv_eq, xv_in, xv_clamp, xv_add, xv_mul, xv_dec, xv_div, xv_mod, xv_m1, xv_m1', xv_and, xv_or, xv_shl, xv_shr, xv_bit0, xv_bit1, hR.2.1, hi, i7, x2, x3, x4, if_true]
      refine K _ (or_lt64 hm s6) fun s hs => ?_
      rw [or_bit, Bool.or_eq_true, hb s hs, decide_eq_true_iff]
      constructor
      · rintro (⟨j, a, b⟩ | b)
        · exact ⟨j, by omega, b⟩
        · exact ⟨i, by omega, b⟩
      · rintro ⟨j, a, b⟩
        by_cases c : j = i
        · rw [c] at b; exact Or.inr b
        · exact Or.inl ⟨j, by omega, b⟩
    · intro m hm hb
      refine g_X9_sortsAt_4 (by decide) ?_
      have e : m = aSb A p 6 := by
        obtain ⟨b1, b2⟩ := aSb_bits A p 6 (by decide)
        refine bits_eq hm b1 fun s hs => ?_
        rw [Bool.eq_iff_iff, hb s hs, b2 s]
        constructor
        · rintro ⟨j, a, b⟩
          refine ⟨hs, ?_⟩
          unfold aSt
          rw [if_pos hp]
          exact List.countP_pos_iff.mpr ⟨_, gd_mem a, decide_eq_true b⟩
        · rintro ⟨_, b⟩
          unfold aSt at b
          rw [if_pos hp] at b
          obtain ⟨w, hw, c⟩ := List.countP_pos_iff.mp b
          obtain ⟨j, hj, e⟩ := mem_gd hw
          exact ⟨j, hj, by rw [e]; exact of_decide_eq_true c⟩
      rw [hR.2.1, if_neg (fun q => Nat.lt_irrefl _ ((xv_lt (by omega) (by omega)).mp q)), e]
      exact ⟨rfl, rfl⟩
  exact key 0 (Nat.zero_le _) 0 (by decide) (fun s hs => by
    rw [Nat.zero_testBit]
    exact ⟨fun x => absurd x (by decide), fun ⟨j, a, _⟩ => absurd a (Nat.not_lt_zero _)⟩)
theorem t_isKnownM {A : xAb} {I : xI} {L : xL} {z : Bool × Bool × Nat} {p : Nat} (hA : abOK A) (hR : xRef A I) (hp : p < ab_n A) : xCd 3 250 [.ref 66, .int (Int32.ofNat p)] (xS I L z) (fun r τ => (∃ v : Int32, r = some (.int v) ∧ (v = 0 ↔ ¬ aKn A p) ∧ (v = 0 ∨ v = 1)) ∧ τ = xS I L z) := by
  refine c_X9_isKnown (g_X9_isKnown_0 (by decide) ?_)
  refine xuse (t_sortsAtM hA hR hp) (by decide) ?_
  rintro _ _ ⟨rfl, rfl⟩
  refine g_X9_isKnown_5 (by decide) ?_
  refine xuse (t_bits (n := 6) (by decide) (aSb_bits A p 6 (by decide)).1) (by decide) ?_
  rintro _ _ ⟨rfl, rfl⟩
  refine g_X9_isKnown_8 (by decide) ?_
  have := pcn_le (aSb A p 6) 6
  unfold aKn
  by_cases e : pcn (aSb A p 6) 6 < 2
  · rw [if_pos (show Int32.ofNat (pcn (aSb A p 6) 6) < (2 : Int32) from (xv_lt (b := 2) (by omega) (by decide)).mpr e)]
    exact ⟨⟨_, rfl, ⟨fun x => absurd x (by decide), fun x => by omega⟩, Or.inr rfl⟩, rfl⟩
  · rw [if_neg (show ¬ Int32.ofNat (pcn (aSb A p 6) 6) < (2 : Int32) from fun q => e ((xv_lt (b := 2) (by omega) (by decide)).mp q))]
    exact ⟨⟨_, rfl, ⟨fun _ => by omega, fun _ => rfl⟩, Or.inl rfl⟩, rfl⟩
theorem t_firstUnknownM {A : xAb} {I : xI} {L : xL} {z : Bool × Bool × Nat} {p : Nat} (hA : abOK A) (hR : xRef A I) (hf : isFu A p) : xCd 4 279 [.ref 66] (xS I L z) (qP I L z (Int32.ofNat p)) := by
  have h6 := hA.1.2
  obtain ⟨f1, f2, f3⟩ := hf
  refine c_X9_firstUnknown (g_X9_firstUnknown_0 (by decide) ?_)
  have key : ∀ q, q ≤ p → h_X9_firstUnknown_2 3 (qP I L z (Int32.ofNat p)) (0, 0) I L z (Int32.ofNat q) := by
    refine xcount _ p ?_ ?_
    · intro q hq K
      refine g_X9_firstUnknown_2 (by decide) ?_
      refine xuse (t_isKnownM hA hR (by omega)) (by decide) ?_
      rintro _ _ ⟨⟨v, rfl, v1, _⟩, rfl⟩
      refine g_X9_firstUnknown_7 (by decide) ?_
      rw [if_neg (fun x => v1.mp x (f3 q hq)), show Int32.ofNat q + 1 = Int32.ofNat (q + 1) from xv_add q 1]
      exact K
    · refine g_X9_firstUnknown_2 (by decide) ?_
      refine xuse (t_isKnownM hA hR (by omega)) (by decide) ?_
      rintro _ _ ⟨⟨v, rfl, v1, _⟩, rfl⟩
      refine g_X9_firstUnknown_7 (by decide) ?_
      rw [if_pos (v1.mpr f2)]
      exact ⟨rfl, rfl⟩
  exact key 0 (by omega)
theorem t_splitM {A : xAb} {I : xI} {L : xL} {z : Bool × Bool × Nat} {p k : Nat} (hA : abOK A) (hM : xTM I 66 A) (hR : xRef A I) (hp : p < ab_n A) (hk : k < 4) : xCd 3 252 [.ref 66, .int (Int32.ofNat p), .int (Int32.ofNat k)] (xS I L z) (qP I L z (Int32.ofNat (aSplit A p k 10))) := by
  have h6 := hA.1.2
  have hl := aP_len hA
  refine c_X9_splitOf (g_X9_splitOf_0 (by decide) ?_)
  have key : ∀ i, i ≤ (aP A).length → ∀ m, m < 1024 → (∀ s, s < 10 → (m.testBit s = true ↔ ∃ j, j < i ∧ aNum A k (wd ((aP A).getD j 0) p) = s)) → h_X9_splitOf_5 2 (qP I L z (Int32.ofNat (aSplit A p k 10))) (0, 0) I L z (Int32.ofNat p) (Int32.ofNat k) (Int32.ofNat m) (Int32.ofNat i) := by
    refine xcount _ (aP A).length ?_ ?_
    · intro i hi K m hm hb
      refine g_X9_splitOf_5 (by decide) ?_
      obtain ⟨x, x1, x2, x3, x4⟩ := xRef_at hA hR hi hp
      have i7 : i < 720 := by omega
      have s6 := aP_wd hA hi (show p < 6 by omega)
      obtain ⟨b1, b2, b3⟩ := g_mark (I := I) (L := L) (z := z) s6
      have q3 := xTM_num hM s6 hk
      have q5 := aNum_lt hA s6 hk
      simp (disch := omega) only [xl_0, xl_1, xl_2, xl_3, xl_4, xl_5, xl_6, xl_7, xl_8, xl_9, xl_10, xl_15, xl_18, xl_24, xl_31, xl_32, xl_36, xl_40, xl_48, xl_63, xl_64, xl_144, xl_250, xl_320, xl_720, xl_721, xl_1000, xl_1023, xl_1024, xv_lt, xv_eq, xv_in, xv_clamp, xv_add, xv_mul, xv_dec, xv_div, xv_mod, xv_m1, xv_m1', xv_and, xv_or, xv_shl, xv_shr, xv_bit0, xv_bit1, hR.2.1, hi, i7, x2, x3, x4, s6, b1, b3, hk, q3, cond_true, if_true]
      refine K _ ?_ fun s hs => ?_
      · rw [Nat.one_mul]
        exact Nat.or_lt_two_pow (n := 10) hm (Nat.pow_lt_pow_of_lt (by decide) q5)
      rw [or_bit, Bool.or_eq_true, hb s hs, decide_eq_true_iff]
      constructor
      · rintro (⟨j, a, b⟩ | b)
        · exact ⟨j, by omega, b⟩
        · exact ⟨i, by omega, b⟩
      · rintro ⟨j, a, b⟩
        by_cases c : j = i
        · rw [c] at b; exact Or.inr b
        · exact Or.inl ⟨j, by omega, b⟩
    · intro m hm hb
      refine g_X9_splitOf_5 (by decide) ?_
      rw [hR.2.1, if_neg (fun q => Nat.lt_irrefl _ ((xv_lt (by omega) (by omega)).mp q))]
      refine xuse (t_bits (n := 10) (by decide) hm) (by decide) ?_
      rintro _ _ ⟨rfl, rfl⟩
      refine g_X9_splitOf_42 (by decide) ?_
      have e : ∀ v, v ≤ 10 → pcn m v = aSplit A p k v := by
        intro v
        induction v with
        | zero => intro _; rfl
        | succ v ih =>
          intro hv
          simp only [pcn, aSplit]
          rw [ih (by omega)]
          congr 1
          have : m.testBit v = true ↔ 0 < aHv A p k v := by
            rw [hb v (by omega)]
            unfold aHv
            rw [List.countP_pos_iff]
            constructor
            · rintro ⟨j, a, b⟩
              exact ⟨_, gd_mem a, decide_eq_true b⟩
            · rintro ⟨w, hw, c⟩
              obtain ⟨j, hj, e⟩ := mem_gd hw
              exact ⟨j, hj, by rw [e]; exact of_decide_eq_true c⟩
          by_cases c : 0 < aHv A p k v
          · rw [if_pos (this.mpr c), if_pos c]
          · rw [if_neg (fun x => c (this.mp x)), if_neg c]
      rw [e 10 (Nat.le_refl _)]
      exact ⟨rfl, rfl⟩
  exact key 0 (Nat.zero_le _) 0 (by decide) (fun s hs => by
    rw [Nat.zero_testBit]
    exact ⟨fun x => absurd x (by decide), fun ⟨j, a, _⟩ => absurd a (Nat.not_lt_zero _)⟩)
theorem t_worstM {A : xAb} {I : xI} {L : xL} {z : Bool × Bool × Nat} {p k : Nat} (hA : abOK A) (hM : xTM I 66 A) (hR : xRef A I) (hp : p < ab_n A) (hk : k < 4) : xCd 3 253 [.ref 66, .int (Int32.ofNat p), .int (Int32.ofNat k)] (xS I L z) (qP I L z (Int32.ofNat (aWorst A p k 10))) := by
  have h6 := hA.1.2
  have hl := aP_len hA
  refine c_X9_worstOf (g_X9_worstOf_0 (by decide) ?_)
  have key : ∀ v, v ≤ 10 → h_X9_worstOf_5 2 (qP I L z (Int32.ofNat (aWorst A p k 10))) (0, 0) I L z (Int32.ofNat p) (Int32.ofNat k) (Int32.ofNat (aWorst A p k v)) (Int32.ofNat v) := by
    refine xcount _ 10 ?_ ?_
    · intro v hv K
      refine g_X9_worstOf_5 (by decide) ?_
      rw [if_pos (show Int32.ofNat v < (10 : Int32) from (xv_lt (b := 10) (by omega) (by decide)).mpr hv)]
      have key2 : ∀ i, i ≤ (aP A).length → h_X9_worstOf_18 2 (qP I L z (Int32.ofNat (aWorst A p k 10))) (0, 0) I L z (Int32.ofNat p) (Int32.ofNat k) (Int32.ofNat (aWorst A p k v)) (Int32.ofNat v) (Int32.ofNat (((aP A).take i).countP (fun w => decide (aNum A k (wd w p) = v)))) (Int32.ofNat i) := by
        refine xcount _ (aP A).length ?_ ?_
        · intro i hi K2
          refine g_X9_worstOf_18 (by decide) ?_
          obtain ⟨x, x1, x2, x3, x4⟩ := xRef_at hA hR hi hp
          have i7 : i < 720 := by omega
          have s6 := aP_wd hA hi (show p < 6 by omega)
          obtain ⟨b1, b2, b3⟩ := g_mark (I := I) (L := L) (z := z) s6
          have q3 := xTM_num hM s6 hk
          have q5 := aNum_lt hA s6 hk
          rw [cp_snoc hi] at K2
          simp (disch := omega) only [xl_0, xl_1, xl_2, xl_3, xl_4, xl_5, xl_6, xl_7, xl_8, xl_9, xl_10, xl_15, xl_18, xl_24, xl_31, xl_32, xl_36, xl_40, xl_48, xl_63, xl_64, xl_144, xl_250, xl_320, xl_720, xl_721, xl_1000, xl_1023, xl_1024, xv_lt, xv_eq, xv_in, xv_clamp, xv_add, xv_mul, xv_dec, xv_div, xv_mod, xv_m1, xv_m1', xv_and, xv_or, xv_shl, xv_shr, xv_bit0, xv_bit1, hR.2.1, hi, i7, x2, x3, x4, s6, b1, b3, hk, q3, cond_true, if_true]
          by_cases e : aNum A k (wd ((aP A).getD i 0) p) = v
          · rw [if_pos (decide_eq_true e)] at K2
            rw [if_pos e]; exact K2
          · rw [if_neg (by rw [decide_eq_false e]; decide)] at K2
            rw [if_neg e]; exact K2
        · refine g_X9_worstOf_18 (by decide) ?_
          have w1 := aWorst_le A p k v
          have w2 := aHv_le A p k v
          rw [hR.2.1, if_neg (fun q => Nat.lt_irrefl _ ((xv_lt (by omega) (by omega)).mp q)), List.take_length, show Int32.ofNat v + 1 = Int32.ofNat (v + 1) from xv_add v 1]
          simp only [aWorst] at K
          show (if Int32.ofNat (aWorst A p k v) < Int32.ofNat (aHv A p k v) then _ else _)
          by_cases e : aWorst A p k v < aHv A p k v
          · rw [if_pos e] at K
            rw [if_pos ((xv_lt (by omega) (by omega)).mpr e)]
            exact K
          · rw [if_neg e] at K
            rw [if_neg (fun x => e ((xv_lt (by omega) (by omega)).mp x))]
            exact K
      exact key2 0 (Nat.zero_le _)
    · refine g_X9_worstOf_5 (by decide) ?_
      rw [if_neg (by decide)]
      exact ⟨rfl, rfl⟩
  exact key 0 (by decide)
theorem t_nextM {A : xAb} {I : xI} {L : xL} {z : Bool × Bool × Nat} {ks : Nat} (hA : abOK A) (hM : xTM I 66 A) (hR : xRef A I) (hk : ks < 16) : xCd 4 255 [.ref 66, .int (Int32.ofNat ks)] (xS I L z) (qP I L z (nxA (aNx A ks (ab_n A * 4)))) := by
  have h6 := hA.1.2
  have hl := aP_len hA
  have nn := hM.1.1
  refine c_X9_nextOf (g_X9_nextOf_0 (by decide) ?_)
  have key : ∀ p, p ≤ ab_n A → h_X9_nextOf_7 3 (qP I L z (nxA (aNx A ks (ab_n A * 4)))) (0, 0) I L z (Int32.ofNat ks) (nxA (aNx A ks (p * 4))) (nxB (aNx A ks (p * 4)) 0) (Int32.ofNat p) := by
    refine xcount _ (ab_n A) ?_ ?_
    · intro p hp K
      refine g_X9_nextOf_7 (by decide) ?_
      rw [nn, if_pos ((xv_lt (by omega) (by omega)).mpr hp)]
      have key2 : ∀ k, k ≤ 4 → h_X9_nextOf_19 3 (qP I L z (nxA (aNx A ks (ab_n A * 4)))) (0, 0) I L z (Int32.ofNat ks) (nxA (aNx A ks (p * 4 + k))) (nxB (aNx A ks (p * 4 + k)) 0) (Int32.ofNat p) (Int32.ofNat k) := by
        refine xcount _ 4 ?_ ?_
        · intro k hk4 K2
          refine g_X9_nextOf_19 (by decide) ?_
          have e1 : (p * 4 + k) / 4 = p := by omega
          have e2 : (p * 4 + k) % 4 = k := by omega
          rw [if_pos (show Int32.ofNat k < (4 : Int32) from (xv_lt (b := 4) (by omega) (by decide)).mpr hk4)]
          rw [show p * 4 + (k + 1) = (p * 4 + k) + 1 from by omega] at K2
          simp only [aNx, e1, e2] at K2
          have cnd : p_X9_has I L (Int32.ofNat ks) (Int32.ofNat k) ↔ ks.testBit k = true := by
            show ¬ ((Int32.ofNat ks >>> (Int32.ofNat k &&& 31)) &&& 1) = 0 ↔ _
            rw [show (31 : Int32) = Int32.ofNat 31 from rfl, show (1 : Int32) = Int32.ofNat 1 from rfl, show (0 : Int32) = Int32.ofNat 0 from rfl, xv_and, xv_shr (by omega) (by omega), xv_and, xv_bit0]
            cases ks.testBit k <;> simp
          by_cases e : ks.testBit k = true
          · rw [if_pos (cnd.mpr e)]
            rw [if_pos e] at K2
            refine xuse (t_worstM hA hM hR hp hk4) (by decide) ?_
            rintro _ _ ⟨rfl, rfl⟩
            refine g_X9_nextOf_42 (by decide) ?_
            have w := aWorst_le A p k 10
            have e3 : (10 : Int32) * Int32.ofNat p + Int32.ofNat k = Int32.ofNat (10 * p + k) := by
              rw [show (10 : Int32) = Int32.ofNat 10 from rfl, xv_mul, xv_add]
            rw [e3, show Int32.ofNat k + 1 = Int32.ofNat (k + 1) from xv_add k 1]
            cases q : aNx A ks (p * 4 + k) with
            | none =>
              rw [q] at K2
              rw [if_pos (show nxA none = (-1 : Int32) from rfl)]
              exact K2
            | some g =>
              obtain ⟨f, l⟩ := g
              rw [q] at K2
              obtain ⟨ol, j, j1, j2, _⟩ := aNx_ok A ks _ _ _ q
              simp only at K2
              rw [if_neg (show ¬ nxA (some (f, l)) = (-1 : Int32) from fun x => by
                have := xv_m1 (a := f) (b := 1) (by omega) (by decide) (by decide)
                rw [show nxA (some (f, l)) = Int32.ofNat f from rfl, show (-1 : Int32) = -(Int32.ofNat 1) from rfl, this] at x
                exact x)]
              show (if Int32.ofNat (aWorst A p k 10) < Int32.ofNat l then _ else _)
              by_cases c : aWorst A p k 10 < l
              · rw [if_pos ((xv_lt (by omega) (by omega)).mpr c)]
                rw [if_pos c] at K2
                exact K2
              · rw [if_neg (fun x => c ((xv_lt (by omega) (by omega)).mp x))]
                rw [if_neg c] at K2
                exact K2
          · rw [if_neg (fun x => e (cnd.mp x))]
            rw [if_neg e] at K2
            rw [show Int32.ofNat k + 1 = Int32.ofNat (k + 1) from xv_add k 1]
            exact K2
        · refine g_X9_nextOf_19 (by decide) ?_
          rw [if_neg (by decide), show Int32.ofNat p + 1 = Int32.ofNat (p + 1) from xv_add p 1, show p * 4 + 4 = (p + 1) * 4 from by omega]
          exact K
      exact key2 0 (by decide)
    · refine g_X9_nextOf_7 (by decide) ?_
      rw [nn, if_neg (fun q => Nat.lt_irrefl _ ((xv_lt (by omega) (by omega)).mp q))]
      exact ⟨rfl, rfl⟩
  exact key 0 (by omega)
theorem t_mindM {A : xAb} {I : xI} {L : xL} {z : Bool × Bool × Nat} {g p : Nat} (hA : abOK A) (hM : xTM I 66 A) (hR : xRef A I) (hg : g < 6) (hp : p < ab_n A) : xCd 2 267 [.ref 66, .int (Int32.ofNat g), .int (Int32.ofNat p)] (xS I L z) (qP I L z (Int32.ofNat (aMd A g p))) := by
  have h6 := hA.1.2
  have hl := aP_len hA
  have hw : I 92 g = ab_want A g := hM.2.2.2.2.1 g hg
  refine c_X9_mindOf (g_X9_mindOf_0 (by decide) ?_)
  by_cases e : ab_want A g = -1
  · have em : aMd A g p = 0 := if_pos e
    rw [em]
    have key : ∀ i, i ≤ (aP A).length → h_X9_mindOf_5 1 (qP I L z (Int32.ofNat 0)) (0, 0) I L z (Int32.ofNat g) (Int32.ofNat p) (Int32.ofNat 0) (Int32.ofNat i) := by
      refine xcount _ (aP A).length ?_ ?_
      · intro i hi K
        refine g_X9_mindOf_5 (by decide) ?_
        obtain ⟨x, x1, x2, x3, x4⟩ := xRef_at hA hR hi hp
        have i7 : i < 720 := by omega
        have e' : ab_want A g = -(Int32.ofNat 1) := e
        simp (disch := omega) only [xl_0, xl_1, xl_2, xl_3, xl_4, xl_5, xl_6, xl_7, xl_8, xl_9, xl_10, xl_15, xl_18, xl_24, xl_31, xl_32, xl_36, xl_40, xl_48, xl_63, xl_64, xl_144, xl_250, xl_320, xl_720, xl_721, xl_1000, xl_1023, xl_1024, xv_lt, xv_eq, xv_in, xv_clamp, xv_add, xv_mul, xv_dec, xv_div, xv_mod, xv_m1, xv_m1', xv_and, xv_or, xv_shl, xv_shr, xv_bit0, xv_bit1, hR.2.1, hi, i7, x2, x3, x4, hg, hw, e', if_true]
        exact K
      · refine g_X9_mindOf_5 (by decide) ?_
        rw [hR.2.1, if_neg (fun q => Nat.lt_irrefl _ ((xv_lt (by omega) (by omega)).mp q))]
        exact ⟨rfl, rfl⟩
    exact key 0 (Nat.zero_le _)
  · have em : aMd A g p = (aP A).countP (fun w => !(decide (Int32.ofNat (wd w p) = ab_want A g))) := if_neg e
    rw [em]
    have key : ∀ i, i ≤ (aP A).length → h_X9_mindOf_5 1 (qP I L z (Int32.ofNat ((aP A).countP (fun w => !(decide (Int32.ofNat (wd w p) = ab_want A g)))))) (0, 0) I L z (Int32.ofNat g) (Int32.ofNat p) (Int32.ofNat (((aP A).take i).countP (fun w => !(decide (Int32.ofNat (wd w p) = ab_want A g))))) (Int32.ofNat i) := by
      refine xcount _ (aP A).length ?_ ?_
      · intro i hi K
        refine g_X9_mindOf_5 (by decide) ?_
        obtain ⟨x, x1, x2, x3, x4⟩ := xRef_at hA hR hi hp
        have i7 : i < 720 := by omega
        have s6 := aP_wd hA hi (show p < 6 by omega)
        have e' : ¬ ab_want A g = -(Int32.ofNat 1) := e
        rw [cp_snoc hi] at K
        simp (disch := omega) only [xl_0, xl_1, xl_2, xl_3, xl_4, xl_5, xl_6, xl_7, xl_8, xl_9, xl_10, xl_15, xl_18, xl_24, xl_31, xl_32, xl_36, xl_40, xl_48, xl_63, xl_64, xl_144, xl_250, xl_320, xl_720, xl_721, xl_1000, xl_1023, xl_1024, xv_lt, xv_eq, xv_in, xv_clamp, xv_add, xv_mul, xv_dec, xv_div, xv_mod, xv_m1, xv_m1', xv_and, xv_or, xv_shl, xv_shr, xv_bit0, xv_bit1, hR.2.1, hi, i7, x2, x3, x4, hg, hw, e', if_true, if_false]
        by_cases c : ab_want A g = Int32.ofNat (wd ((aP A).getD i 0) p)
        · rw [if_pos c]
          rw [if_neg (by rw [decide_eq_true c.symm]; decide)] at K
          exact K
        · rw [if_neg c]
          rw [if_pos (by rw [decide_eq_false (fun q => c q.symm)]; rfl)] at K
          exact K
      · refine g_X9_mindOf_5 (by decide) ?_
        rw [hR.2.1, if_neg (fun q => Nat.lt_irrefl _ ((xv_lt (by omega) (by omega)).mp q)), List.take_length]
        exact ⟨rfl, rfl⟩
    exact key 0 (Nat.zero_le _)
