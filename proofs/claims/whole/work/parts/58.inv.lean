/-! what stands between two calls, and what a question comes to on both sides -/
def xAbv (I : xI) : Prop := I 1 0 = -1 ∧ I 1 1 = 0 ∧ I 1 2 = 0 ∧ I 1 3 = 2 ∧ I 1 4 = 3 ∧ I 1 5 = 2
/-- the tally: no entry is of a later round -/
def xTal (t : Nat) (I : xI) : Prop := I 44 3 = Int32.ofNat t ∧ ∀ i, i < 1024 → ∃ r, r ≤ t ∧ I 47 i = Int32.ofNat r
def xInv (c : Nat) (A : xAb) (I : xI) (L : xL) (z : Bool × Bool × Nat) : Prop := xBoth A I L z ∧ xShf I ∧ xAbv I ∧ xCache A I ∧ ∃ t, t ≤ 64 * c ∧ xTal t I
/-- the class's own scratch; with the counts of refusals -/
def scrX : Nat → Nat → Prop := fun o k => (o = 10 ∧ 5 ≤ k) ∨ (28 ≤ o ∧ o ≤ 55) ∨ (o = 61 ∧ 1 ≤ k) ∨ o = 63 ∨ o = 64
def scrXr : Nat → Nat → Prop := fun o k => scrX o k ∨ o = 65
/-- the reference's -/
def scrM : Nat → Nat → Prop := fun o k => (o = 66 ∧ 23 ≤ k) ∨ o = 79 ∨ (103 ≤ o ∧ o ≤ 111) ∨ 158 ≤ o
def scrAny : Nat → Nat → Prop := fun o k => scrX o k ∨ scrM o k
theorem xBoth_any {A : xAb} {I J : xI} {L : xL} {z : Bool × Bool × Nat} (h : xBoth A I L z) (f : xsm scrAny I J) : xBoth A J L z := by
  obtain ⟨h0, h1, h2, h3, h4, h5, h6, h7⟩ := h
  have g : ∀ o k, ¬ ((o = 10 ∧ 5 ≤ k) ∨ (28 ≤ o ∧ o ≤ 55) ∨ (o = 61 ∧ 1 ≤ k) ∨ o = 63 ∨ o = 64 ∨ (o = 66 ∧ 23 ≤ k) ∨ o = 79 ∨ (103 ≤ o ∧ o ≤ 111) ∨ 158 ≤ o) → J o k = I o k := fun o k q => f o k (fun e => q (by unfold scrAny scrX scrM at e; omega))
  refine ⟨h0, ?_, ?_, ?_, ?_, ?_, ?_, ?_⟩
  · exact xTX_sm f (fun k hk => by unfold scrAny scrX scrM; omega) (fun o a b k => by unfold scrAny scrX scrM; omega) h1
  · exact xTM_sm f (by unfold scrAny scrX scrM; omega) (fun o a b k => by unfold scrAny scrX scrM; omega) h2
  · intro s hs
    have e := h3 s hs
    unfold xShM at e ⊢
    rw [g 58 s (by omega), g 59 s (by omega), g 67 s (by omega), g 68 s (by omega), g 69 s (by omega), g 80 s (by omega), g 10 4 (by omega)]
    exact e
  · intro i hi; rw [g 65 i (by omega), g 82 _ (by omega)]; exact h4 i hi
  · obtain ⟨n, a, b, c, e⟩ := h5
    refine ⟨n, a, ?_, ?_, ?_⟩
    · rw [g 61 0 (by omega)]; exact b
    · rw [g 66 7 (by omega)]; exact c
    · intro i hi; rw [g 62 i (by omega), g 81 i (by omega)]; exact e i hi
  · rw [g 9 11 (by omega)]; exact h6
  · intro hz
    obtain ⟨B, a, b, c⟩ := h7 hz
    exact ⟨B, a, xTX_sm f (fun k hk => by unfold scrAny scrX scrM; omega) (fun o a b k => by unfold scrAny scrX scrM; omega) b, xTM_sm f (by unfold scrAny scrX scrM; omega) (fun o a b k => by unfold scrAny scrX scrM; omega) c⟩
theorem xAbv_sm {S : Nat → Nat → Prop} {I J : xI} (h : xsm S I J) (h1 : ∀ k, ¬ S 1 k) (q : xAbv I) : xAbv J := by
  obtain ⟨a, b, c, d, e, f⟩ := q
  exact ⟨(h _ _ (h1 _)).trans a, (h _ _ (h1 _)).trans b, (h _ _ (h1 _)).trans c, (h _ _ (h1 _)).trans d, (h _ _ (h1 _)).trans e, (h _ _ (h1 _)).trans f⟩
theorem xAll_sm {S : Nat → Nat → Prop} {A : xAb} {I J : xI} (h : xsm S I J) (h1 : ¬ S 37 0 ∧ ∀ k, ¬ S 38 k) (q : xAll A I) : xAll A J := ⟨(h _ _ h1.1).trans q.1, fun i hi => (h _ _ (h1.2 i)).trans (q.2 i hi)⟩
theorem xPos_sm {S : Nat → Nat → Prop} {A : xAb} {I J : xI} (h : xsm S I J) (h1 : ¬ S 37 1 ∧ (∀ k, ¬ S 39 k) ∧ ∀ k, ¬ S 40 k) (q : xPos A I) : xPos A J := ⟨(h _ _ h1.1).trans q.1, fun i hi => (h _ _ (h1.2.1 i)).trans (q.2.1 i hi), fun p hp s hs => (h _ _ (h1.2.2 _)).trans (q.2.2 p hp s hs)⟩
def noC (o k : Nat) : Prop := ¬ ((o = 10 ∧ (k = 5 ∨ k = 6)) ∨ (o = 37 ∧ k ≤ 1) ∨ (38 ≤ o ∧ o ≤ 40))
theorem xCache_sm {S : Nat → Nat → Prop} {A : xAb} {I J : xI} (h : xsm S I J) (h1 : ∀ o k, S o k → noC o k) (q : xCache A I) : xCache A J := by
  have g : ∀ o k, ¬ noC o k → J o k = I o k := fun o k e => h o k (fun x => e (h1 o k x))
  have h' : xsm noC I J := g
  rcases q with q | ⟨q1, q2, q3⟩
  · exact Or.inl ((g 10 5 (by unfold noC; omega)).trans q)
  · refine Or.inr ⟨(g 10 5 (by unfold noC; omega)).trans q1, xAll_sm h' ⟨by unfold noC; omega, fun k => by unfold noC; omega⟩ q2, ?_⟩
    rcases q3 with q3 | ⟨q3, q4⟩
    · exact Or.inl ((g 10 6 (by unfold noC; omega)).trans q3)
    · exact Or.inr ⟨(g 10 6 (by unfold noC; omega)).trans q3, xPos_sm h' ⟨by unfold noC; omega, fun k => by unfold noC; omega, fun k => by unfold noC; omega⟩ q4⟩
theorem xFresh_sm {S : Nat → Nat → Prop} {A : xAb} {I J : xI} (h : xsm S I J) (h1 : ∀ o k, S o k → noC o k) (q : xFresh A I) : xFresh A J := by
  have g : ∀ o k, ¬ noC o k → J o k = I o k := fun o k e => h o k (fun x => e (h1 o k x))
  have h' : xsm noC I J := g
  exact ⟨(g 10 5 (by unfold noC; omega)).trans q.1, (g 10 6 (by unfold noC; omega)).trans q.2.1, xAll_sm h' ⟨by unfold noC; omega, fun k => by unfold noC; omega⟩ q.2.2.1, xPos_sm h' ⟨by unfold noC; omega, fun k => by unfold noC; omega, fun k => by unfold noC; omega⟩ q.2.2.2⟩
theorem xCache_of {A : xAb} {I : xI} (h : xFresh A I) : xCache A I := Or.inr ⟨h.1, h.2.2.1, Or.inr ⟨h.2.1, h.2.2.2⟩⟩
theorem xTal_sm {S : Nat → Nat → Prop} {t : Nat} {I J : xI} (h : xsm S I J) (h1 : ∀ o k, S o k → ¬ (o = 44 ∨ o = 47)) (q : xTal t I) : xTal t J := ⟨(h _ _ fun x => h1 _ _ x (by omega)).trans q.1, fun i hi => by
  obtain ⟨r, a, b⟩ := q.2 i hi
  exact ⟨r, a, (h _ _ fun x => h1 _ _ x (by omega)).trans b⟩⟩
theorem scrW_X : ∀ o k, scrW o k → scrX o k := fun o k e => by unfold scrW at e; unfold scrX; omega
theorem scrF_M : ∀ o k, scrF o k → scrM o k := fun o k e => by unfold scrF at e; unfold scrM; omega
/-- a question on the class's side: its answer, or a refusal -/
def oX (c : Nat) (A : xAb) (I : xI) (L : xL) (z : Bool × Bool × Nat) (k : Nat) (v : Int32) : xQ := fun r τ => ∃ J, xsm scrX I J ∧ xCache A J ∧ (∃ t, t ≤ 64 * (c + 1) ∧ xTal t J) ∧ ((k = 0 ∧ r = some (.int v) ∧ τ = xS J L z) ∨ (2 ≤ k ∧ k ≤ 6 ∧ r = some (.int (-(Int32.ofNat k))) ∧ τ = xS (xrfu J (-(Int32.ofNat k))) L z))
def oM (I : xI) (L : xL) (z : Bool × Bool × Nat) (k : Nat) (v : Int32) : xQ := fun r τ => ∃ J, xsm scrM I J ∧ ((k = 0 ∧ r = some (.int v) ∧ τ = xS J L z) ∨ (2 ≤ k ∧ k ≤ 6 ∧ r = some (.int (-(Int32.ofNat k))) ∧ τ = xS (xw J 82 k (J 82 k + 1)) L z))
def xPq (cx cm : Nat) (args : List Value) : Prop := ∀ (c : Nat) (A : xAb) (I : xI) (L : xL) (z : Bool × Bool × Nat), c < 512 → xInv c A I L z → xCd 30 cx (.ref 9 :: args) (xS I L z) (fun r τ => xCd 30 cm (.ref 66 :: args) τ (fun r' τ' => r' = r ∧ ∃ A' I' L' z', τ' = xS I' L' z' ∧ xInv (c + 1) A' I' L' z'))
theorem xrfu_sm {I : xI} {k : Nat} (h1 : 2 ≤ k) (h2 : k ≤ 6) : xsm (xAt 65) I (xrfu I (-(Int32.ofNat k))) := by
  rw [xrfu_at h1 h2]
  exact xsm_xw rfl (xsm_refl _ _)
/-- a question -/
theorem pr_q {cx cm : Nat} {args : List Value} {c : Nat} {A : xAb} {I : xI} {L : xL} {z : Bool × Bool × Nat} (h : xInv c A I L z) (k : Nat) (v : Int32) (hx : xCd 30 cx (.ref 9 :: args) (xS I L z) (oX c A I L z k v)) (hm : ∀ J, xsm scrXr I J → xTM J 66 A → xCd 30 cm (.ref 66 :: args) (xS J L z) (oM J L z k v)) : xCd 30 cx (.ref 9 :: args) (xS I L z) (fun r τ => xCd 30 cm (.ref 66 :: args) τ (fun r' τ' => r' = r ∧ ∃ A' I' L' z', τ' = xS I' L' z' ∧ xInv (c + 1) A' I' L' z')) := by
  obtain ⟨hb, hs, ha, hc, ht⟩ := h
  refine xuse hx (Nat.le_refl _) ?_
  rintro r τ ⟨J, hJ, jc, ⟨t, t1, t2⟩, ⟨k0, rfl, rfl⟩ | ⟨k2, k6, rfl, rfl⟩⟩
  · refine xuse (hm J (xsm_mono hJ (fun o k e => Or.inl e)) (xTM_sm hJ (by unfold scrX; omega) (fun o a b k => by unfold scrX; omega) hb.2.2.1)) (Nat.le_refl _) ?_
    rintro r' τ' ⟨K, hK, ⟨_, rfl, rfl⟩ | ⟨x, _⟩⟩
    · have hIK : xsm scrAny I K := xsm_trans (xsm_mono hJ (fun o k e => Or.inl e)) (xsm_mono hK (fun o k e => Or.inr e))
      refine ⟨rfl, A, K, L, z, rfl, xBoth_any hb hIK, ?_, ?_, ?_, t, t1, ?_⟩
      · exact xShf_sm hIK (fun k => by unfold scrAny scrX scrM; omega) hs
      · exact xAbv_sm hIK (fun k => by unfold scrAny scrX scrM; omega) ha
      · exact xCache_sm hK (fun o k e => by unfold scrM at e; unfold noC; omega) jc
      · exact xTal_sm hK (fun o k e => by unfold scrM at e; omega) t2
    · omega
  · have hJr := xrfu_sm (I := J) k2 k6
    have hJ2 : xsm scrXr I (xrfu J (-(Int32.ofNat k))) := xsm_trans (xsm_mono hJ (fun o k e => Or.inl e)) (xsm_mono hJr (fun o k e => Or.inr e))
    refine xuse (hm _ hJ2 (xTM_sm hJ2 (by unfold scrXr scrX; omega) (fun o a b k => by unfold scrXr scrX; omega) hb.2.2.1)) (Nat.le_refl _) ?_
    rintro r' τ' ⟨K, hK, ⟨x, _⟩ | ⟨_, _, rfl, rfl⟩⟩
    · omega
    · have hJb := xBoth_any hb (xsm_mono hJ (fun o k e => Or.inl e))
      have hB := xBoth_refuse k2 k6 hJb
      have hRK : xsm scrAny (xRf J k) (xw K 82 k (K 82 k + 1)) := by
        intro o j hs
        have hM : ¬ scrM o j := fun e => hs (Or.inr e)
        have e82 : K 82 k = xrfu J (-(Int32.ofNat k)) 82 k := hK _ _ (by unfold scrM; omega)
        rw [e82]
        unfold xRf
        by_cases q : o = 82 ∧ j = k
        · rw [q.1, q.2, xw_eq, xw_eq]
        · rw [xw_ne q, xw_ne q]; exact hK o j hM
      have hAll : xsm (fun o k => scrAny o k ∨ o = 65 ∨ o = 82) I (xw K 82 k (K 82 k + 1)) := by
        refine xsm_xw (Or.inr (Or.inr rfl)) (xsm_trans (xsm_mono hJ2 (fun o k e => ?_)) (xsm_mono hK (fun o k e => Or.inl (Or.inr e))))
        rcases e with e | e
        · exact Or.inl (Or.inl e)
        · exact Or.inr (Or.inl e)
      refine ⟨rfl, A, _, L, z, rfl, xBoth_any hB hRK, ?_, ?_, ?_, t, t1, ?_⟩
      · exact xShf_sm hAll (fun k => by unfold scrAny scrX scrM; omega) hs
      · exact xAbv_sm hAll (fun k => by unfold scrAny scrX scrM; omega) ha
      · have q1 : xCache A (xrfu J (-(Int32.ofNat k))) := xCache_sm hJr (fun o k e => by unfold xAt at e; unfold noC; omega) jc
        have q2 : xCache A K := xCache_sm hK (fun o k e => by unfold scrM at e; unfold noC; omega) q1
        exact xCache_sm (S := xAt 82) (xsm_xw rfl (xsm_refl _ _)) (fun o k e => by unfold xAt at e; unfold noC; omega) q2
      · have q1 : xTal t (xrfu J (-(Int32.ofNat k))) := xTal_sm hJr (fun o k e => by unfold xAt at e; omega) t2
        have q2 : xTal t K := xTal_sm hK (fun o k e => by unfold scrM at e; omega) q1
        exact xTal_sm (S := xAt 82) (xsm_xw rfl (xsm_refl _ _)) (fun o k e => by unfold xAt at e; omega) q2
/-- how a question ends -/
theorem oX_no {c : Nat} {A : xAb} {I : xI} {L : xL} {z : Bool × Bool × Nat} {k : Nat} {v : Int32} (h : xInv c A I L z) (h2 : 2 ≤ k) (h6 : k ≤ 6) : oX c A I L z k v (some (.int (-(Int32.ofNat k)))) (xS (xrfu I (-(Int32.ofNat k))) L z) := by
  obtain ⟨t, t1, t2⟩ := h.2.2.2.2
  exact ⟨I, xsm_refl _ _, h.2.2.2.1, ⟨t, by omega, t2⟩, Or.inr ⟨h2, h6, rfl, rfl⟩⟩
theorem oX_ok {c : Nat} {A : xAb} {I J : xI} {L : xL} {z : Bool × Bool × Nat} {v : Int32} {t : Nat} (hJ : xsm scrX I J) (hc : xCache A J) (ht : xTal t J) (h : t ≤ 64 * (c + 1)) : oX c A I L z 0 v (some (.int v)) (xS J L z) := ⟨J, hJ, hc, ⟨t, h, ht⟩, Or.inl ⟨rfl, rfl, rfl⟩⟩
theorem oX_no2 {c : Nat} {A : xAb} {I J : xI} {L : xL} {z : Bool × Bool × Nat} {k : Nat} {v : Int32} {t : Nat} (hJ : xsm scrX I J) (hc : xCache A J) (ht : xTal t J) (h : t ≤ 64 * (c + 1)) (h2 : 2 ≤ k) (h6 : k ≤ 6) : oX c A I L z k v (some (.int (-(Int32.ofNat k)))) (xS (xrfu J (-(Int32.ofNat k))) L z) := ⟨J, hJ, hc, ⟨t, h, ht⟩, Or.inr ⟨h2, h6, rfl, rfl⟩⟩
theorem oM_no {I J : xI} {L : xL} {z : Bool × Bool × Nat} {k : Nat} {v : Int32} (hJ : xsm scrM I J) (h2 : 2 ≤ k) (h6 : k ≤ 6) : oM I L z k v (some (.int (-(Int32.ofNat k)))) (xS (xw J 82 k (J 82 k + 1)) L z) := ⟨J, hJ, Or.inr ⟨h2, h6, rfl, rfl⟩⟩
theorem oM_ok {I J : xI} {L : xL} {z : Bool × Bool × Nat} {v : Int32} (hJ : xsm scrM I J) : oM I L z 0 v (some (.int v)) (xS J L z) := ⟨J, hJ, Or.inl ⟨rfl, rfl, rfl⟩⟩
/-- the class's worlds are asked -/
theorem u_refresh {c : Nat} {A : xAb} {I : xI} {L : xL} {z : Bool × Bool × Nat} {F : xQ} {d : Nat} (h : xInv c A I L z) (hd : 3 ≤ d) (k : ∀ (J : xI) (t : Nat), xsm scrW I J → xFresh A J → xTX J 10 A → xShf J → xAbv J → t ≤ 64 * c → xTal t J → F none (xS J L z)) : xCd d 114 [.ref 37] (xS I L z) F := by
  obtain ⟨hb, hs, ha, hc, ⟨t, t1, t2⟩⟩ := h
  refine xuse (t_refresh hb.1 hb.2.1 hs hc) hd ?_
  rintro _ _ ⟨rfl, J, rfl, hJ, hF⟩
  exact k J t hJ hF (xTX_W hJ hb.2.1) (xShf_sm hJ (fun k => by unfold scrW; omega) hs) (xAbv_sm hJ (fun k => by unfold scrW; omega) ha) t1 (xTal_sm hJ (fun o k e => by unfold scrW at e; omega) t2)
theorem u_findP {A : xAb} {I : xI} {L : xL} {z : Bool × Bool × Nat} {F : xQ} {d : Nat} (hA : abOK A) (hM : xTM I 66 A) (hd : 10 ≤ d) (k : ∀ J : xI, xsm scrF I J → xRef A J → xTM J 66 A → F none (xS J L z)) : xCd d 244 [.ref 66] (xS I L z) F := by
  refine xuse (t_findPossibleM hA hM) hd ?_
  rintro _ _ ⟨rfl, J, rfl, hJ, hR⟩
  exact k J hJ hR (xTM_F hJ hM)
theorem f_stand {A : xAb} {I : xI} {L : xL} {p s : Nat} (h : xPos A I) (hp : p < 6) (hs : s < 8) : f_X7_howManyStand I L (Int32.ofNat p) (Int32.ofNat s) = Int32.ofNat (aSt A p s) := by
  unfold f_X7_howManyStand
  have q := h.2.2 p hp s hs
  have c : p * 8 + s < 48 := by omega
  simp (disch := omega) only [xl_0, xl_1, xl_2, xl_3, xl_4, xl_5, xl_6, xl_7, xl_8, xl_9, xl_10, xl_15, xl_18, xl_24, xl_31, xl_32, xl_36, xl_40, xl_48, xl_63, xl_64, xl_144, xl_250, xl_320, xl_720, xl_721, xl_1000, xl_1023, xl_1024, xv_lt, xv_eq, xv_in, xv_clamp, xv_add, xv_mul, xv_dec, xv_div, xv_mod, xv_m1, xv_m1', xv_and, xv_or, xv_shl, xv_shr, xv_bit0, xv_bit1, Nat.not_lt_zero, c, q, if_true, if_false]
theorem f_num {A : xAb} {I : xI} {L : xL} {k s : Nat} (hX : xTX I 10 A) (hk : k < 4) (hs : s < 6) : f_X6_numberOf I L (Int32.ofNat k) (Int32.ofNat s) = Int32.ofNat (aNum A k s) := by
  unfold f_X6_numberOf aNum
  by_cases e : k = 3
  · rw [if_pos (show Int32.ofNat k = 3 by rw [e]; rfl), if_pos e]
  · rw [if_neg (show ¬ Int32.ofNat k = (3 : Int32) from fun q => e ((xv_eq (b := 3) (by omega) (by decide)).mp q)), if_neg e]
    have q := hX.2.2.2.1 s hs k (by omega)
    have c : s * 3 + k < 18 := by omega
    simp (disch := omega) only [xl_0, xl_1, xl_2, xl_3, xl_4, xl_5, xl_6, xl_7, xl_8, xl_9, xl_10, xl_15, xl_18, xl_24, xl_31, xl_32, xl_36, xl_40, xl_48, xl_63, xl_64, xl_144, xl_250, xl_320, xl_720, xl_721, xl_1000, xl_1023, xl_1024, xv_lt, xv_eq, xv_in, xv_clamp, xv_add, xv_mul, xv_dec, xv_div, xv_mod, xv_m1, xv_m1', xv_and, xv_or, xv_shl, xv_shr, xv_bit0, xv_bit1, Nat.not_lt_zero, if_true, if_false, xv_lt, c]
    exact q
