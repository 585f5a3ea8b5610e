/-! promises: tries -/
theorem nx_cases {A : xAb} {ks : Nat} : nxA (aNx A ks (ab_n A * 4)) = -1 ∨ ∃ p k, p < ab_n A ∧ k < 4 ∧ nxA (aNx A ks (ab_n A * 4)) = Int32.ofNat (10 * p + k) := by
  cases c : aNx A ks (ab_n A * 4) with
  | none => exact Or.inl rfl
  | some w =>
    obtain ⟨f, l⟩ := w
    obtain ⟨_, j, b1, b2, _⟩ := aNx_ok A ks _ _ _ c
    exact Or.inr ⟨j / 4, j % 4, by omega, by omega, by rw [← b2]; rfl⟩
theorem say_cases {A : xAb} {kd a p : Nat} (hA : abOK A) (hp : 2 ≤ (aP A).length → isFu A p) : aSay A kd a p = -1 ∨ ∃ p' k, p' < ab_n A ∧ k < 4 ∧ aSay A kd a p = Int32.ofNat (10 * p' + k) := by
  unfold aSay
  by_cases e : (aP A).length < 2
  · rw [if_pos e]; exact Or.inl rfl
  have hp := (hp (by omega)).1
  rw [if_neg e]
  by_cases e1 : kd = 1
  · rw [if_pos e1]
    unfold aTu
    by_cases q : aSplit A (aTb A (ab_n A)) 0 10 = 1
    · rw [if_pos q]; exact Or.inl rfl
    · rw [if_neg q]; exact Or.inr ⟨aTb A (ab_n A), 0, aTb_lt A _ (by have := hA.1.1; omega), by decide, rfl⟩
  rw [if_neg e1]
  by_cases e2 : kd = 2
  · rw [if_pos e2]; exact Or.inr ⟨p, 3, hp, by decide, rfl⟩
  rw [if_neg e2]
  by_cases e3 : kd = 3
  · rw [if_pos e3]; exact nx_cases
  rw [if_neg e3]
  by_cases e4 : kd = 4
  · rw [if_pos e4]
    obtain ⟨f, l, q, _, a, b, _⟩ := nx7 hA
    rw [q]
    show (if l < (aP A).length then Int32.ofNat f else nxA (aNx A 8 (ab_n A * 4))) = -1 ∨ _
    by_cases r : l < (aP A).length
    · right
      refine ⟨f / 10, f % 10, a, b, ?_⟩
      show (if l < (aP A).length then Int32.ofNat f else nxA (aNx A 8 (ab_n A * 4))) = _
      rw [if_pos r]; congr 1; omega
    · have := nx_cases (A := A) (ks := 8)
      show (if l < (aP A).length then Int32.ofNat f else nxA (aNx A 8 (ab_n A * 4))) = -1 ∨ ∃ p' k, p' < ab_n A ∧ k < 4 ∧ (if l < (aP A).length then Int32.ofNat f else nxA (aNx A 8 (ab_n A * 4))) = Int32.ofNat (10 * p' + k)
      rw [if_neg r]; exact this
  rw [if_neg e4]
  by_cases e5 : kd = 5
  · rw [if_pos e5]
    by_cases q : pcn (aSb A (aBp A) 6) 6 ≤ 1
    · rw [if_pos q]; exact Or.inr ⟨p, 3, hp, by decide, rfl⟩
    · rw [if_neg q]; exact Or.inr ⟨aBp A, 3, aBp_lt hA, by decide, rfl⟩
  · rw [if_neg e5]; exact Or.inr ⟨p, a % 4, hp, by omega, rfl⟩
def tnum (A : xAb) (p k : Nat) : Nat := aNum A k (ab_stood A p)
/-- what is known already, or no more to say -/
def tryS (i q : Nat) (A : xAb) : Prop := (2 ≤ (aP A).length → isFu A q) ∧ (aSay A ((ab_tell A).getD i (0, 0)).1 ((ab_tell A).getD i (0, 0)).2 q = -1 ∨ ∃ p k, p < ab_n A ∧ k < 4 ∧ aSay A ((ab_tell A).getD i (0, 0)).1 ((ab_tell A).getD i (0, 0)).2 q = Int32.ofNat (10 * p + k) ∧ ¬ ab_known A p k = -1)
def tryN (i q p k : Nat) (A : xAb) : Prop := (2 ≤ (aP A).length → isFu A q) ∧ p < ab_n A ∧ k < 4 ∧ aSay A ((ab_tell A).getD i (0, 0)).1 ((ab_tell A).getD i (0, 0)).2 q = Int32.ofNat (10 * p + k) ∧ ab_known A p k = -1
def tryP (i : Nat) : Nat → xAb → xAb → Prop
  | 0, A, B => A = B ∧ ∃ q, tryS i q A
  | c + 1, A, B => ∃ q p k, tryN i q p k A ∧ tryP i c (ab_lrn A p k (tnum A p k)) B
theorem lrn_tell (A : xAb) (p k v : Nat) : ab_tell (ab_lrn A p k v) = ab_tell A := by
  unfold ab_lrn; split <;> rfl
theorem lrn_ok {A : xAb} {p k : Nat} (hA : abOK A) (hp : p < ab_n A) (hk : k < 4) : abOK (ab_lrn A p k (tnum A p k)) := by
  have h6 := hA.1.2
  obtain ⟨hv, h3⟩ := truth_num hA (show p < 6 by omega) hk
  exact lrn_OK hA hp hk hv h3
theorem lrn_len {A : xAb} {p k v : Nat} (hn : ab_known A p k = -1) : (ab_sign (ab_lrn A p k v)).length = (ab_sign A).length + 1 := by
  unfold ab_lrn
  rw [if_pos hn]
  show (ab_sign A ++ [_]).length = _
  rw [List.length_append]; rfl
theorem try_ex (i : Nat) : ∀ m (A : xAb), abOK A → (ab_sign A).length + m = 24 → ∃ B c, tryP i c A B := by
  intro m
  induction m with
  | zero =>
    intro A hA hm
    obtain ⟨q, hq⟩ := fu_any hA
    rcases say_cases (kd := ((ab_tell A).getD i (0, 0)).1) (a := ((ab_tell A).getD i (0, 0)).2) hA hq with e | ⟨p, k, hp, hk, e⟩
    · exact ⟨A, 0, rfl, q, hq, Or.inl e⟩
    · refine ⟨A, 0, rfl, q, hq, Or.inr ⟨p, k, hp, hk, e, fun hn => ?_⟩⟩
      have q2 := (lrn_ok hA hp hk).2.2.2.2.2.2.2.2.1.1
      rw [lrn_len hn] at q2
      omega
  | succ m ih =>
    intro A hA hm
    obtain ⟨q, hq⟩ := fu_any hA
    rcases say_cases (kd := ((ab_tell A).getD i (0, 0)).1) (a := ((ab_tell A).getD i (0, 0)).2) hA hq with e | ⟨p, k, hp, hk, e⟩
    · exact ⟨A, 0, rfl, q, hq, Or.inl e⟩
    · by_cases hn : ab_known A p k = -1
      · obtain ⟨B, c, h⟩ := ih _ (lrn_ok hA hp hk) (by rw [lrn_len hn]; omega)
        exact ⟨B, c + 1, q, p, k, ⟨hq, hp, hk, e, hn⟩, h⟩
      · exact ⟨A, 0, rfl, q, hq, Or.inr ⟨p, k, hp, hk, e, hn⟩⟩
theorem try_ok {i : Nat} {B : xAb} : ∀ (c : Nat) (A : xAb), tryP i c A B → abOK A → abOK B ∧ (ab_sign A).length + c ≤ 24
  | 0, A, h, hA => by
    obtain ⟨rfl, _⟩ := h
    exact ⟨hA, by have := hA.2.2.2.2.2.2.2.2.1.1; omega⟩
  | c + 1, A, h, hA => by
    obtain ⟨q, p, k, ⟨hq, hp, hk, hs, hn⟩, h⟩ := h
    obtain ⟨a, b⟩ := try_ok c _ h (lrn_ok hA hp hk)
    rw [lrn_len hn] at b
    exact ⟨a, by omega⟩
theorem s0_split {p k : Nat} (hp : p < 6) (hk : k < 4) : Int32.ofNat (10 * p + k) / 10 = Int32.ofNat p ∧ Int32.ofNat (10 * p + k) - Int32.ofNat (10 * p + k) / 10 * 10 = Int32.ofNat k := by
  have e : Int32.ofNat (10 * p + k) / 10 = Int32.ofNat p := by
    rw [show (10 : Int32) = Int32.ofNat 10 from rfl, xv_div (by omega) (by decide)]
    congr 1; omega
  refine ⟨e, ?_⟩
  rw [e, show Int32.ofNat p * 10 = Int32.ofNat (p * 10) from xv_mul p 10, xv_sub (by omega)]
  congr 1; omega
theorem try_X {i : Nat} {B : xAb} {c0 tt : Nat} {I : xI} {L : xL} {z : Bool × Bool × Nat} {C : Nat} (ht : tt ≤ 64 * (c0 + 1)) : ∀ (c : Nat) (A : xAb), tryP i c A B → ∀ (j : Nat) (J : xI), j + c = C → C ≤ 24 → abOK A → i < (ab_tell A).length → xsm scrXt I J → J 10 4 = I 10 4 → xTX J 10 A → xShf J → xCache A J → xTal tt J → h_X8_tries_20 29 (oXc c0 B I L z (Int32.ofNat C)) (0, 0) J L z (Int32.ofNat i) (Int32.ofNat j) := by
  -- up to what the teller says
  have up : ∀ (A : xAb) (q j : Nat) (J : xI) (F : xQ), j ≤ 24 → (2 ≤ (aP A).length → isFu A q) → abOK A → i < (ab_tell A).length → xsm scrXt I J → J 10 4 = I 10 4 → xTX J 10 A → xShf J → xCache A J → xTal tt J → (∀ K : xI, xsm scrXt I K → K 10 4 = I 10 4 → xTX K 10 A → xShf K → xCache A K → xTal tt K → h_X8_tries_41 29 F (0, 0) K L z (Int32.ofNat i) (Int32.ofNat j) (aSay A ((ab_tell A).getD i (0, 0)).1 ((ab_tell A).getD i (0, 0)).2 q)) → h_X8_tries_20 29 F (0, 0) J L z (Int32.ofNat i) (Int32.ofNat j) := by
    intro A q j J F hj hq hA hi hJ j4 jX jS jc jt KK
    refine g_X8_tries_20 (by decide) ?_
    rw [if_neg (show ¬ (24 : Int32) < Int32.ofNat j from fun x => by have := (xv_lt (a := 24) (by decide) (by omega)).mp x; omega)]
    refine xuse (t_refresh hA jX jS jc) (by decide) ?_
    rintro _ _ ⟨rfl, K, rfl, hK, kF⟩
    refine g_X8_tries_33 (by decide) ?_
    have kX := xTX_W hK jX
    refine xuse (t_sayX hA kX kF.2.2.2 hi hq) (by decide) ?_
    rintro _ _ ⟨rfl, N, rfl, hN, _⟩
    refine KK N ?_ ?_ ?_ ?_ ?_ ?_
    · exact xsm_trans hJ (xsm_trans (xsm_mono hK (fun o k e => scrX_Xt o k (scrW_X o k e))) (xsm_mono hN (fun o k e => by unfold scrB at e; unfold scrXt scrX; omega)))
    · rw [hN 10 4 (by unfold scrB; omega), hK 10 4 (by unfold scrW; omega)]; exact j4
    · exact xTX_sm hN (fun k hk => by unfold scrB; omega) (fun o a b k => by unfold scrB; omega) kX
    · exact xShf_sm hN (fun k => by unfold scrB; omega) (xShf_sm hK (fun k => by unfold scrW; omega) jS)
    · exact xCache_of (xFresh_sm hN (fun o k e => by unfold scrB at e; unfold noC; omega) kF)
    · exact xTal_sm hN (fun o k e => by unfold scrB at e; omega) (xTal_sm hK (fun o k e => by unfold scrW at e; omega) jt)
  have end_ : ∀ (A : xAb) (K : xI), xsm scrXt I K → K 10 4 = I 10 4 → xTX K 10 A → xCache A K → xTal tt K → oXc c0 A I L z (Int32.ofNat C) (some (.int (Int32.ofNat C))) (xS K L z) := fun A K hK k4 kX kc kt => ⟨rfl, K, rfl, hK, kX, fun t _ h => by rw [k4]; exact h, kc, tt, ht, kt⟩
  intro c
  induction c with
  | zero =>
    rintro A ⟨rfl, q, hq, h⟩ j J hj hC hA hi hJ j4 jX jS jc jt
    have hjC : j = C := by omega
    subst hjC
    refine up A q j J _ (by omega) hq hA hi hJ j4 jX jS jc jt ?_
    intro K hK k4 kX kS kc kt
    refine g_X8_tries_41 (by decide) ?_
    rcases h with e | ⟨p, k, hp, hk, e, hn⟩
    · rw [e, if_pos rfl]; exact end_ A K hK k4 kX kc kt
    · have h6 := hA.1.2
      obtain ⟨s1, s2⟩ := s0_split (show p < 6 by omega) hk
      rw [e, if_neg (show ¬ Int32.ofNat (10 * p + k) = -1 by rw [lrm (by omega)]; exact id), s2, s1]
      refine xuse (t_knows hA kX (by omega) hk) (by decide) ?_
      rintro _ _ ⟨rfl, rfl⟩
      refine g_X8_tries_72 (by decide) ?_
      rw [if_neg hn, if_neg (by decide)]
      exact end_ A K hK k4 kX kc kt
  | succ c ih =>
    rintro A ⟨q, p, k, ⟨hq, hp, hk, hs, hn⟩, h⟩ j J hj hC hA hi hJ j4 jX jS jc jt
    have h6 := hA.1.2
    obtain ⟨hv, h3⟩ := truth_num hA (show p < 6 by omega) hk
    refine up A q j J _ (by omega) hq hA hi hJ j4 jX jS jc jt ?_
    intro K hK k4 kX kS kc kt
    refine g_X8_tries_41 (by decide) ?_
    obtain ⟨s1, s2⟩ := s0_split (show p < 6 by omega) hk
    rw [hs, if_neg (show ¬ Int32.ofNat (10 * p + k) = -1 by rw [lrm (by omega)]; exact id), s2, s1]
    refine xuse (t_knows hA kX (by omega) hk) (by decide) ?_
    rintro _ _ ⟨rfl, rfl⟩
    refine g_X8_tries_72 (by decide) ?_
    rw [if_pos hn, if_pos rfl, f_truth hA kX (by omega) hk]
    refine xuse (t_learn hA kX hp hk hv h3) (by decide) ?_
    rintro _ _ ⟨rfl, N, rfl, hN, nX, nc⟩
    refine g_X8_tries_99 (by decide) ?_
    rw [if_neg (show ¬ (1 : Int32) = 0 from by decide), show Int32.ofNat j + 1 = Int32.ofNat (j + 1) from xv_add j 1]
    refine ih _ h (j + 1) N (by omega) hC (lrn_ok hA hp hk) (by rw [lrn_tell]; exact hi) ?_ ?_ nX ?_ (nc kc) ?_
    · exact xsm_trans hK (xsm_mono hN (fun o k e => by unfold scrLn at e; unfold scrXt; omega))
    · rw [hN 10 4 (by unfold scrLn; omega)]; exact k4
    · exact xShf_sm hN (fun k => by unfold scrLn; omega) kS
    · exact xTal_sm hN (fun o k e => by unfold scrLn at e; omega) kt
