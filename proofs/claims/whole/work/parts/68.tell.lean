theorem t_handerM {A : xAb} {I : xI} {L : xL} {z : Bool × Bool × Nat} {p : Nat} (hA : abOK A) (hM : xTM I 66 A) (hR : xRef A I) (hf : isFu A p) : xCd 12 281 [.ref 66] (xS I L z) (qV scrS I L z (if pcn (aSb A (aBp A) 6) 6 ≤ 1 then Int32.ofNat (10 * p + 3) else Int32.ofNat (10 * aBp A + 3)) (fun _ => True)) := by
  have h2 := hA.1.1
  have h6 := hA.1.2
  have nn := hM.1.1
  refine c_X9_handerSays (g_X9_handerSays_0 (by decide) ?_)
  have key : ∀ g, g ≤ ab_n A → 0 < g → h_X9_handerSays_4 11 (qV scrS I L z (if pcn (aSb A (aBp A) 6) 6 ≤ 1 then Int32.ofNat (10 * p + 3) else Int32.ofNat (10 * aBp A + 3)) (fun _ => True)) (0, 0) I L z (Int32.ofNat (aGm A g)) (Int32.ofNat g) := by
    refine xcount _ (ab_n A) ?_ ?_
    · intro g hg K g0
      refine g_X9_handerSays_4 (by decide) ?_
      have hl := aGm_lt A g g0
      have m1 := hA.2.2.2.2.2.2.2.1 g (by omega)
      have m2 := hA.2.2.2.2.2.2.2.1 (aGm A g) (by omega)
      have q1 : I 93 g = Int32.ofNat (ab_mind A g) := hM.2.2.2.2.2.1 g (by omega)
      have q2 : I 93 (aGm A g) = Int32.ofNat (ab_mind A (aGm A g)) := hM.2.2.2.2.2.1 _ (by omega)
      have K := K (by omega)
      have eg : aGm A (g + 1) = if ab_mind A (aGm A g) < ab_mind A g then g else aGm A g := rfl
      rw [nn, if_pos ((xv_lt (by omega) (by omega)).mpr hg), if_pos ((xv_in (by omega)).mpr (by omega)), if_pos ((xv_in (by omega)).mpr (by omega)), xv_clamp (by omega), xv_clamp (by omega), q1, q2, show Int32.ofNat g + 1 = Int32.ofNat (g + 1) from xv_add g 1]
      by_cases c : ab_mind A (aGm A g) < ab_mind A g
      · rw [if_pos ((xv_lt (by omega) (by omega)).mpr c)]
        rw [eg, if_pos c] at K
        exact K
      · rw [if_neg (fun x => c ((xv_lt (by omega) (by omega)).mp x))]
        rw [eg, if_neg c] at K
        exact K
    · intro g0
      refine g_X9_handerSays_4 (by decide) ?_
      rw [nn, if_neg (fun q => Nat.lt_irrefl _ ((xv_lt (by omega) (by omega)).mp q))]
      refine xuse (t_findBestM hA hM hR) (by decide) ?_
      rintro _ _ ⟨rfl, J, rfl, j0, j1, j2⟩
      refine g_X9_handerSays_43 (by decide) ?_
      have gl := aGm_lt A (ab_n A) (by omega)
      have pl := aBp_lt hA
      have hM' := xTM_S j0 hM
      have hR' := xRef_S j0 hR
      have q := j2 _ gl
      rw [if_pos ((xv_in (by omega)).mpr (by omega)), xv_clamp (by omega), q, show gd (aPath A (ab_n A) 0) (aGm A (ab_n A)) = aBp A from rfl]
      refine xuse (t_isKnownM hA hR' pl) (by decide) ?_
      rintro _ _ ⟨⟨v, rfl, v1, _⟩, rfl⟩
      refine g_X9_handerSays_57 (by decide) ?_
      by_cases d : pcn (aSb A (aBp A) 6) 6 ≤ 1
      · rw [if_pos d, if_neg (fun x => v1.mp x d)]
        refine xuse (t_firstUnknownM hA hR' hf) (by decide) ?_
        rintro _ _ ⟨rfl, rfl⟩
        refine g_X9_handerSays_64 (by decide) ⟨?_, J, rfl, j0, trivial⟩
        rw [show (10 : Int32) * Int32.ofNat p + 3 = Int32.ofNat (10 * p + 3) by rw [show (10 : Int32) = Int32.ofNat 10 from rfl, show (3 : Int32) = Int32.ofNat 3 from rfl, xv_mul, xv_add]]
      · rw [if_neg d, if_pos (v1.mpr d)]
        refine ⟨?_, J, rfl, j0, trivial⟩
        rw [show (10 : Int32) * Int32.ofNat (aBp A) + 3 = Int32.ofNat (10 * aBp A + 3) by rw [show (10 : Int32) = Int32.ofNat 10 from rfl, show (3 : Int32) = Int32.ofNat 3 from rfl, xv_mul, xv_add]]
  have k1 := key 1 (by omega) (by decide)
  rw [aGm_1] at k1
  exact k1
theorem scrS_M : ∀ o k, scrS o k → scrM o k := fun o k e => by unfold scrS at e; unfold scrM; omega
theorem t_sayM {A : xAb} {I : xI} {L : xL} {z : Bool × Bool × Nat} {t p : Nat} (hA : abOK A) (hM : xTM I 66 A) (ht : t < (ab_tell A).length) (hp : 2 ≤ (aP A).length → isFu A p) : xCd 14 282 [.ref 66, .int (Int32.ofNat t)] (xS I L z) (qV scrM I L z (aSay A ((ab_tell A).getD t (0, 0)).1 ((ab_tell A).getD t (0, 0)).2 p) (fun _ => True)) := by
  have h2 := hA.1.1
  have h6 := hA.1.2
  have hl := aP_len hA
  have t4 := hA.2.2.2.2.2.2.2.2.2.1
  have hmem : (ab_tell A).getD t (0, 0) ∈ ab_tell A := by
    rw [List.getD_eq_getElem?_getD, List.getElem?_eq_getElem ht]; exact List.getElem_mem ht
  obtain ⟨b1, b2⟩ := hA.2.2.2.2.2.2.2.2.2.2 _ hmem
  refine c_X9_toldBy (g_X9_toldBy_0 (by decide) ?_)
  refine u_findP hA hM (by decide) ?_
  intro J hJ hR hM'
  refine g_X9_toldBy_4 (by decide) ?_
  have hJM := xsm_mono hJ scrF_M
  obtain ⟨k1, k2⟩ := hM'.2.2.2.2.2.2.2 t ht
  generalize (ab_tell A).getD t (0, 0) = q at *
  obtain ⟨kd, a⟩ := q
  simp only at k1 k2 b1 b2 ⊢
  have k1 : J 101 t = Int32.ofNat kd := k1
  have k2 : J 102 t = Int32.ofNat a := k2
  have it : xin (Int32.ofNat t) 4 := (xv_in (by omega)).mpr (by omega)
  rw [hR.2.1]
  unfold aSay
  by_cases c : (aP A).length < 2
  · rw [if_pos c, if_pos (show Int32.ofNat (aP A).length < (2 : Int32) from (xv_lt (b := 2) (by omega) (by decide)).mpr c)]
    exact ⟨rfl, J, rfl, hJM, trivial⟩
  · have hf := hp (by omega)
    rw [if_neg c, if_neg (show ¬ Int32.ofNat (aP A).length < (2 : Int32) from fun x => c ((xv_lt (b := 2) (by omega) (by decide)).mp x)), if_pos it, xv_clamp (by omega), k1]
    have ek : kd = 0 ∨ kd = 1 ∨ kd = 2 ∨ kd = 3 ∨ kd = 4 ∨ kd = 5 := by omega
    have e10 : (10 : Int32) * Int32.ofNat p = Int32.ofNat (10 * p) := by rw [show (10 : Int32) = Int32.ofNat 10 from rfl, xv_mul]
    rcases ek with rfl | rfl | rfl | rfl | rfl | rfl
    · rw [if_neg (by decide), if_neg (by decide), if_neg (by decide), if_neg (by decide), if_neg (by decide), if_neg (by decide), if_neg (by decide), if_neg (by decide), if_neg (by decide), if_neg (by decide)]
      refine xuse (t_firstUnknownM hA hR hf) (by decide) ?_
      rintro _ _ ⟨rfl, rfl⟩
      refine g_X9_toldBy_126 (by decide) ?_
      rw [if_pos it, xv_clamp (by omega), k2]
      have em : Int32.ofNat a - Int32.ofNat a / 4 * 4 = Int32.ofNat (a % 4) := by simp (disch := omega) only [xl_0, xl_1, xl_2, xl_3, xl_4, xl_5, xl_6, xl_7, xl_8, xl_9, xl_10, xl_15, xl_18, xl_24, xl_31, xl_32, xl_36, xl_40, xl_48, xl_63, xl_64, xl_144, xl_250, xl_320, xl_720, xl_721, xl_1000, xl_1023, xl_1024, xv_lt, xv_eq, xv_in, xv_clamp, xv_add, xv_mul, xv_dec, xv_div, xv_mod, xv_m1, xv_m1', xv_and, xv_or, xv_shl, xv_shr, xv_bit0, xv_bit1]
      refine ⟨?_, J, rfl, hJM, trivial⟩
      rw [em, e10, xv_add]
    · rw [if_pos (by decide), if_pos (by decide)]
      refine xuse (t_shadesM hA hM' hR) (by decide) ?_
      rintro _ _ ⟨rfl, rfl⟩
      exact g_X9_toldBy_60 (by decide) ⟨rfl, J, rfl, hJM, trivial⟩
    · rw [if_neg (by decide), if_pos (by decide), if_neg (by decide), if_pos (by decide)]
      refine xuse (t_firstUnknownM hA hR hf) (by decide) ?_
      rintro _ _ ⟨rfl, rfl⟩
      refine g_X9_toldBy_67 (by decide) ⟨?_, J, rfl, hJM, trivial⟩
      rw [e10, show (3 : Int32) = Int32.ofNat 3 from rfl, xv_add]
    · rw [if_neg (by decide), if_neg (by decide), if_pos (by decide), if_neg (by decide), if_neg (by decide), if_pos (by decide)]
      refine xuse (t_nextM (ks := 7) hA hM' hR (by decide)) (by decide) ?_
      rintro _ _ ⟨rfl, rfl⟩
      exact g_X9_toldBy_77 (by decide) ⟨rfl, J, rfl, hJM, trivial⟩
    · rw [if_neg (by decide), if_neg (by decide), if_neg (by decide), if_pos (by decide), if_neg (by decide), if_neg (by decide), if_neg (by decide), if_pos (by decide)]
      obtain ⟨f, l, n1, n2, n3, n4, n5⟩ := nx7 hA
      refine xuse (t_nextM (ks := 7) hA hM' hR (by decide)) (by decide) ?_
      rintro _ _ ⟨rfl, rfl⟩
      refine g_X9_toldBy_84 (by decide) ?_
      rw [n1, show nxA (some (f, l)) = Int32.ofNat f from rfl]
      have e1 : Int32.ofNat f / 10 = Int32.ofNat (f / 10) := by simp (disch := omega) only [xl_0, xl_1, xl_2, xl_3, xl_4, xl_5, xl_6, xl_7, xl_8, xl_9, xl_10, xl_15, xl_18, xl_24, xl_31, xl_32, xl_36, xl_40, xl_48, xl_63, xl_64, xl_144, xl_250, xl_320, xl_720, xl_721, xl_1000, xl_1023, xl_1024, xv_lt, xv_eq, xv_in, xv_clamp, xv_add, xv_mul, xv_dec, xv_div, xv_mod, xv_m1, xv_m1', xv_and, xv_or, xv_shl, xv_shr, xv_bit0, xv_bit1]
      have e2 : Int32.ofNat f - Int32.ofNat (f / 10) * 10 = Int32.ofNat (f % 10) := by simp (disch := omega) only [xl_0, xl_1, xl_2, xl_3, xl_4, xl_5, xl_6, xl_7, xl_8, xl_9, xl_10, xl_15, xl_18, xl_24, xl_31, xl_32, xl_36, xl_40, xl_48, xl_63, xl_64, xl_144, xl_250, xl_320, xl_720, xl_721, xl_1000, xl_1023, xl_1024, xv_lt, xv_eq, xv_in, xv_clamp, xv_add, xv_mul, xv_dec, xv_div, xv_mod, xv_m1, xv_m1', xv_and, xv_or, xv_shl, xv_shr, xv_bit0, xv_bit1]
      rw [e1, e2]
      refine xuse (t_worstM hA hM' hR n3 n4) (by decide) ?_
      rintro _ _ ⟨rfl, rfl⟩
      refine g_X9_toldBy_97 (by decide) ?_
      rw [← n2, hR.2.1]
      have hw := aWorst_le A (f / 10) (f % 10) 10
      by_cases d : l < (aP A).length
      · rw [if_pos ((xv_lt (by omega) (by omega)).mpr d)]
        refine g_X9_toldBy_114 (by decide) ⟨?_, J, rfl, hJM, trivial⟩
        simp only
        rw [if_pos d]
      · rw [if_neg (fun x => d ((xv_lt (by omega) (by omega)).mp x))]
        refine xuse (t_nextM (ks := 8) hA hM' hR (by decide)) (by decide) ?_
        rintro _ _ ⟨rfl, rfl⟩
        refine g_X9_toldBy_114 (by decide) ⟨?_, J, rfl, hJM, trivial⟩
        simp only
        rw [if_neg d]
    · rw [if_neg (by decide), if_neg (by decide), if_neg (by decide), if_neg (by decide), if_pos (by decide), if_neg (by decide), if_neg (by decide), if_neg (by decide), if_neg (by decide), if_pos (by decide)]
      refine xuse (t_handerM hA hM' hR hf) (by decide) ?_
      rintro _ _ ⟨rfl, K, rfl, k0, _⟩
      exact g_X9_toldBy_119 (by decide) ⟨rfl, K, rfl, xsm_trans hJM (xsm_mono k0 scrS_M), trivial⟩
theorem fu_any {A : xAb} (hA : abOK A) : ∃ p, 2 ≤ (aP A).length → isFu A p := by
  by_cases c : 2 ≤ (aP A).length
  · obtain ⟨p, hp⟩ := fu_ex hA c
    exact ⟨p, fun _ => hp⟩
  · exact ⟨0, fun x => absurd x c⟩
theorem xi_teller {A : xAb} {I : xI} {L : xL} {a : Int32} (hA : abOK A) (h : I 10 4 = Int32.ofNat (ab_tell A).length) : p_X6_hasTeller I L a ↔ (0 ≤ a.toInt ∧ a.toInt < ((ab_tell A).length : Int)) := by
  have t4 := hA.2.2.2.2.2.2.2.2.2.1
  show (¬ a < 0 ∧ (a < I 10 4 ∧ a < 4)) ↔ _
  rw [h]
  simp only [Int32.lt_iff_toInt_lt, ti_0, ti_4, xv_int (show (ab_tell A).length < 2147483648 by omega)]
  omega
theorem xm_teller {A : xAb} {I : xI} {L : xL} {a : Int32} (hA : abOK A) (h : I 66 17 = Int32.ofNat (ab_tell A).length) : p_X9_isTeller I L a ↔ (0 ≤ a.toInt ∧ a.toInt < ((ab_tell A).length : Int)) := by
  have t4 := hA.2.2.2.2.2.2.2.2.2.1
  show p_X9_in I L (Int32.toInt64 a) (Int64.ofNat 0) (Int32.toInt64 (I 66 17 - 1)) ↔ _
  rw [h, xp_inG, xv_less1 _ (by omega), show (Int64.ofNat 0).toInt = 0 from rfl]
  omega
theorem pr_tells (a1 : Int32) : xPq 165 283 [.int a1] := by
  intro c A I L z hc h
  have hA := h.1.1
  obtain ⟨p, hp⟩ := fu_any hA
  by_cases e : 0 ≤ a1.toInt ∧ a1.toInt < ((ab_tell A).length : Int)
  · obtain ⟨t, ht, rfl⟩ := xr_nat e
    refine pr_q h 0 (aSay A ((ab_tell A).getD t (0, 0)).1 ((ab_tell A).getD t (0, 0)).2 p) ?_ ?_
    · refine c_X8_tells (d := 29) (g_X8_tells_0 (by decide) ?_)
      rw [if_pos ((xi_teller hA h.1.2.1.1.2.2.2.2).mpr e)]
      refine u_refresh h (by decide) ?_
      intro J t' hJ hF hX hs ha t1 t2
      refine g_X8_tells_25 (by decide) ?_
      refine xuse (t_sayX hA hX hF.2.2.2 ht hp) (by decide) ?_
      rintro _ _ ⟨rfl, K, rfl, k0, _⟩
      refine g_X8_tells_33 (by decide) (oX_ok (xsm_trans (xsm_mono hJ scrW_X) (xsm_mono k0 (fun o k e => by unfold scrB at e; unfold scrX; omega))) (xCache_of (xFresh_sm k0 (fun o k e => by unfold scrB at e; unfold noC; omega) hF)) (xTal_sm k0 (fun o k e => by unfold scrB at e; omega) t2) (by omega))
    · intro J hJ hM
      refine c_X9_tells_ (d := 29) (g_X9_tells__0 (by decide) ?_)
      rw [if_pos ((xm_teller hA hM.1.2.2.2).mpr e)]
      refine xuse (t_sayM hA hM ht hp) (by decide) ?_
      rintro _ _ ⟨rfl, K, rfl, k0, _⟩
      exact g_X9_tells__13 (by decide) (oM_ok k0)
  · refine pr_q h 2 0 ?_ ?_
    · refine c_X8_tells (d := 29) (g_X8_tells_0 (by decide) ?_)
      rw [if_neg (fun x => e ((xi_teller hA h.1.2.1.1.2.2.2.2).mp x))]
      exact oX_no h (by decide) (by decide)
    · intro J hJ hM
      refine c_X9_tells_ (d := 29) (g_X9_tells__0 (by decide) ?_)
      rw [if_neg (fun x => e ((xm_teller hA hM.1.2.2.2).mp x))]
      exact oM_no (xsm_refl _ _) (by decide) (by decide)
/-- a kind and those above it -/
def anc : Nat → List Nat
  | 0 => [0]
  | 1 => [1, 0]
  | 2 => [2, 0]
  | 3 => [3, 2, 0]
  | 4 => [4, 3, 2, 0]
  | _ => [5, 2, 0]
theorem und_m : ∀ k, k < 6 → ∀ v, v < 6 → ((Int32.ofNat v = (0 : Int32) ∨ (Int32.ofNat k = Int32.ofNat v ∨ ((Int32.ofNat v = (2 : Int32) ∧ (Int32.ofNat k = (3 : Int32) ∨ (Int32.ofNat k = (5 : Int32) ∨ Int32.ofNat k = (4 : Int32)))) ∨ (¬ Int32.ofNat v = (2 : Int32) ∧ (Int32.ofNat v = (3 : Int32) ∧ Int32.ofNat k = (4 : Int32)))))) ↔ v ∈ anc k) := by
  intro k hk v hv
  rcases six hk with rfl | rfl | rfl | rfl | rfl | rfl <;> rcases six hv with rfl | rfl | rfl | rfl | rfl | rfl <;> (constructor <;> intro h <;> first | decide | exact absurd h (by decide))
theorem t_isUnder {I : xI} {L : xL} {z : Bool × Bool × Nat} {k v : Nat} (hb : xAbv I) (hk : k < 6) (hv : v < 6) : xCd 2 74 [.int (Int32.ofNat k), .int (Int32.ofNat v)] (xS I L z) (qP I L z (if v ∈ anc k then 1 else 0)) := by
  obtain ⟨b0, b1, b2, b3, b4, b5⟩ := hb
  refine c_X5_isUnder (g_X5_isUnder_0 (by decide) ?_)
  have kk : ∀ a, a < 6 → p_X5_isKind I L (Int32.ofNat a) := fun a ha => ⟨xv_neg (by omega), (xv_lt (b := 6) (by omega) (by decide)).mpr ha⟩
  have step : ∀ Q : xQ, ∀ a i, a < 6 → i < 6 → (a = v → Q (some (.int 1)) (xS I L z)) → (a ≠ v → h_X5_isUnder_4 1 Q (0, 0) I L z (Int32.ofNat k) (Int32.ofNat v) (I 1 a) (Int32.ofNat (i + 1))) → h_X5_isUnder_4 1 Q (0, 0) I L z (Int32.ofNat k) (Int32.ofNat v) (Int32.ofNat a) (Int32.ofNat i) := by
    intro Q a i ha hi h1 h2
    refine g_X5_isUnder_4 (by decide) ?_
    rw [if_pos (show Int32.ofNat i < (6 : Int32) from (xv_lt (b := 6) (by omega) (by decide)).mpr hi), if_pos (kk a ha)]
    by_cases e : a = v
    · rw [if_pos (by rw [e])]; exact h1 e
    · rw [if_neg (fun q => e ((xv_eq (by omega) (by omega)).mp q)), if_pos ((xv_in (by omega)).mpr ha), xv_clamp (by omega), show Int32.ofNat i + 1 = Int32.ofNat (i + 1) from xv_add i 1]
      exact h2 e
  have no : ∀ Q : xQ, ∀ i, Q (some (.int 0)) (xS I L z) → h_X5_isUnder_4 1 Q (0, 0) I L z (Int32.ofNat k) (Int32.ofNat v) (-1) (Int32.ofNat i) := by
    intro Q i h
    refine g_X5_isUnder_4 (by decide) ?_
    split
    · rw [if_neg (show ¬ p_X5_isKind I L (-1 : Int32) from fun q => absurd q.1 (by decide))]; exact h
    · exact h
  have c0 : ∀ i, i < 6 → ∀ l : List Nat, (v ∈ l → ¬ v = 0 → False) → (v = 0 → v ∈ l) → h_X5_isUnder_4 1 (qP I L z (if v ∈ l then 1 else 0)) (0, 0) I L z (Int32.ofNat k) (Int32.ofNat v) (Int32.ofNat 0) (Int32.ofNat i) := by
    intro i hi l h1 h2
    refine step _ 0 i (by decide) hi (fun e => ?_) (fun e => ?_)
    · rw [if_pos (h2 e.symm)]; exact ⟨rfl, rfl⟩
    · rw [b0]
      refine no _ _ ?_
      rw [if_neg (fun x => h1 x (fun y => e y.symm))]
      exact ⟨rfl, rfl⟩
  have c2 : ∀ i, i < 5 → ∀ l : List Nat, (v ∈ l → ¬ v = 0 → ¬ v = 2 → False) → (v = 0 → v ∈ l) → (v = 2 → v ∈ l) → h_X5_isUnder_4 1 (qP I L z (if v ∈ l then 1 else 0)) (0, 0) I L z (Int32.ofNat k) (Int32.ofNat v) (Int32.ofNat 2) (Int32.ofNat i) := by
    intro i hi l h1 h2 h3
    refine step _ 2 i (by decide) (by omega) (fun e => ?_) (fun e => ?_)
    · rw [if_pos (h3 e.symm)]; exact ⟨rfl, rfl⟩
    · rw [b2]
      exact c0 (i + 1) (by omega) l (fun a b => h1 a b (fun y => e y.symm)) h2
  have c3 : ∀ i, i < 4 → ∀ l : List Nat, (v ∈ l → ¬ v = 0 → ¬ v = 2 → ¬ v = 3 → False) → (v = 0 → v ∈ l) → (v = 2 → v ∈ l) → (v = 3 → v ∈ l) → h_X5_isUnder_4 1 (qP I L z (if v ∈ l then 1 else 0)) (0, 0) I L z (Int32.ofNat k) (Int32.ofNat v) (Int32.ofNat 3) (Int32.ofNat i) := by
    intro i hi l h1 h2 h3 h4
    refine step _ 3 i (by decide) (by omega) (fun e => ?_) (fun e => ?_)
    · rw [if_pos (h4 e.symm)]; exact ⟨rfl, rfl⟩
    · rw [b3]
      exact c2 (i + 1) (by omega) l (fun a b c => h1 a b c (fun y => e y.symm)) h2 h3
  rcases six hk with rfl | rfl | rfl | rfl | rfl | rfl
  · exact c0 0 (by decide) [0] (fun x y => by simp at x; omega) (fun y => by simp [y])
  · refine step _ 1 0 (by decide) (by decide) (fun e => ?_) (fun e => ?_)
    · rw [← e]; exact ⟨rfl, rfl⟩
    · rw [b1]
      exact c0 1 (by decide) [1, 0] (fun x y => by simp at x; omega) (fun y => by simp [y])
  · exact c2 0 (by decide) [2, 0] (fun x y w => by simp at x; omega) (fun y => by simp [y]) (fun y => by simp [y])
  · exact c3 0 (by decide) [3, 2, 0] (fun x y w t => by simp at x; omega) (fun y => by simp [y]) (fun y => by simp [y]) (fun y => by simp [y])
  · refine step _ 4 0 (by decide) (by decide) (fun e => ?_) (fun e => ?_)
    · rw [← e]; exact ⟨rfl, rfl⟩
    · rw [b4]
      exact c3 1 (by decide) [4, 3, 2, 0] (fun x y w t => by simp at x; omega) (fun y => by simp [y]) (fun y => by simp [y]) (fun y => by simp [y])
  · refine step _ 5 0 (by decide) (by decide) (fun e => ?_) (fun e => ?_)
    · rw [← e]; exact ⟨rfl, rfl⟩
    · rw [b5]
      exact c2 1 (by decide) [5, 2, 0] (fun x y w => by simp at x; omega) (fun y => by simp [y]) (fun y => by simp [y])
