/-! tellers -/
theorem aNx_none {A : xAb} {ks : Nat} : ∀ i, aNx A ks i = none → ∀ j, j < i → ks.testBit (j % 4) = false
  | 0, _, j, hj => absurd hj (Nat.not_lt_zero _)
  | i + 1, h, j, hj => by
    simp only [aNx] at h
    by_cases e : ks.testBit (i % 4) = true
    · rw [if_pos e] at h
      exfalso
      cases c : aNx A ks i with
      | none => rw [c] at h; simp at h
      | some w =>
        obtain ⟨f, l⟩ := w
        rw [c] at h
        simp only at h
        split at h <;> simp at h
    · rw [if_neg e] at h
      by_cases q : j = i
      · rw [q]; cases c : ks.testBit (i % 4) with | true => exact absurd c e | false => rfl
      · exact aNx_none i h j (by omega)
def aTb (A : xAb) : Nat → Nat
  | 0 => 0
  | i + 1 => if aSplit A (aTb A i) 0 10 < aSplit A i 0 10 then i else aTb A i
theorem aTb_lt (A : xAb) : ∀ i, 0 < i → aTb A i < i
  | 0, h => absurd h (by decide)
  | i + 1, _ => by
    simp only [aTb]
    by_cases e : 0 < i
    · have := aTb_lt A i e
      split <;> omega
    · have : i = 0 := by omega
      subst this
      show (if aSplit A 0 0 10 < aSplit A 0 0 10 then 0 else 0) < 1
      split <;> decide
theorem aSplit_pos {A : xAb} (hA : abOK A) {p k : Nat} (hp : p < ab_n A) (hk : k < 4) (h : 0 < (aP A).length) : 1 ≤ aSplit A p k 10 := by
  have h6 := hA.1.2
  have hw := gd_mem h
  have s6 := (aW_wd hA (aP_mem.mp hw).1 (show p < 6 by omega)).1
  have hn := aNum_lt hA s6 hk
  have pos : 0 < aHv A p k (aNum A k (wd ((aP A).getD 0 0) p)) := List.countP_pos_iff.mpr ⟨_, hw, decide_eq_true rfl⟩
  have key : ∀ v i, v < i → 0 < aHv A p k v → 1 ≤ aSplit A p k i := by
    intro v i hv hpos
    induction i with
    | zero => omega
    | succ i ih =>
      simp only [aSplit]
      by_cases e : v = i
      · subst e
        rw [if_pos hpos]; omega
      · have := ih (by omega)
        split <;> omega
  exact key _ 10 hn pos
def aTu (A : xAb) : Int32 := if aSplit A (aTb A (ab_n A)) 0 10 = 1 then -1 else Int32.ofNat (10 * aTb A (ab_n A))
theorem t_shadesX {A : xAb} {I : xI} {L : xL} {z : Bool × Bool × Nat} (hA : abOK A) (hX : xTX I 10 A) (hP : xPos A I) (h : 0 < (aP A).length) : xCd 4 77 [.ref 56] (xS I L z) (qP I L z (aTu A)) := by
  have h2 := hA.1.1
  have h6 := hA.1.2
  have nn := hX.1.1
  refine c_X5_mostShades (g_X5_mostShades_0 (by decide) ?_)
  have key : ∀ p, p ≤ ab_n A → ∀ v : Int32, ∀ m : Nat, ((v = -1 ∧ m = 1 ∧ (0 < p → aSplit A (aTb A p) 0 10 = 1)) ∨ (0 < p ∧ v = Int32.ofNat (10 * aTb A p) ∧ m = aSplit A (aTb A p) 0 10 ∧ 1 < m)) → h_X5_mostShades_6 3 (qP I L z (aTu A)) (0, 0) I L z v (Int32.ofNat m) (Int32.ofNat p) := by
    refine xcount _ (ab_n A) ?_ ?_
    · intro p hp K v m hv
      refine g_X5_mostShades_6 (by decide) ?_
      rw [nn, if_pos ((xv_lt (by omega) (by omega)).mpr hp)]
      refine xuse (t_splitX (k := 0) hA hX hP hp (by decide)) (by decide) ?_
      rintro _ _ ⟨rfl, rfl⟩
      refine g_X5_mostShades_26 (by decide) ?_
      have s1 := aSplit_pos hA (k := 0) hp (by decide) h
      have s2 := aSplit_le A p 0 10
      have s3 := aSplit_le A (aTb A p) 0 10
      have et : aTb A (p + 1) = if aSplit A (aTb A p) 0 10 < aSplit A p 0 10 then p else aTb A p := rfl
      have hm : m ≤ 10 := by
        rcases hv with ⟨_, b, _⟩ | ⟨_, _, b, _⟩ <;> omega
      rw [show Int32.ofNat p + 1 = Int32.ofNat (p + 1) from xv_add p 1]
      have e0 : p = 0 → aTb A (p + 1) = 0 := fun x => by
        subst x
        show (if aSplit A 0 0 10 < aSplit A 0 0 10 then 0 else 0) = 0
        split <;> rfl
      have ea : (10 : Int32) * Int32.ofNat p + 0 = Int32.ofNat (10 * p) := by
        rw [show (10 : Int32) = Int32.ofNat 10 from rfl, xv_mul, Int32.add_zero]
      rw [ea]
      by_cases c : m < aSplit A p 0 10
      · rw [if_pos ((xv_lt (by omega) (by omega)).mpr c)]
        have en : aTb A (p + 1) = p := by
          rcases hv with ⟨a, b, d⟩ | ⟨a, b, d, f⟩
          · by_cases q : p = 0
            · rw [e0 q, q]
            · rw [et, if_pos (by rw [d (by omega)]; omega)]
          · rw [et, if_pos (by omega)]
        refine K _ _ (Or.inr ⟨by omega, by rw [en], by rw [en], ?_⟩)
        rcases hv with ⟨a, b, d⟩ | ⟨a, b, d, f⟩ <;> omega
      · rw [if_neg (fun x => c ((xv_lt (by omega) (by omega)).mp x))]
        refine K _ _ ?_
        rcases hv with ⟨a, b, d⟩ | ⟨a, b, d, f⟩
        · refine Or.inl ⟨a, b, fun _ => ?_⟩
          by_cases q : p = 0
          · rw [e0 q]
            subst q
            omega
          · have := d (by omega)
            rw [et, if_neg (by omega)]
            exact this
        · refine Or.inr ⟨by omega, ?_, ?_, f⟩
          · rw [et, if_neg (by omega)]; exact b
          · rw [et, if_neg (by omega)]; exact d
    · intro v m hv
      refine g_X5_mostShades_6 (by decide) ?_
      rw [nn, if_neg (fun q => Nat.lt_irrefl _ ((xv_lt (by omega) (by omega)).mp q))]
      have : v = aTu A := by
        unfold aTu
        rcases hv with ⟨a, b, d⟩ | ⟨a, b, d, f⟩
        · rw [if_pos (d (by omega))]; exact a
        · rw [if_neg (by omega)]; exact b
      rw [this]
      exact ⟨rfl, rfl⟩
  exact key 0 (by omega) (-1) 1 (Or.inl ⟨rfl, rfl, fun x => absurd x (by decide)⟩)
theorem t_shadesM {A : xAb} {I : xI} {L : xL} {z : Bool × Bool × Nat} (hA : abOK A) (hM : xTM I 66 A) (hR : xRef A I) : xCd 4 280 [.ref 66] (xS I L z) (qP I L z (aTu A)) := by
  have h2 := hA.1.1
  have h6 := hA.1.2
  have nn := hM.1.1
  refine c_X9_turnerSays (g_X9_turnerSays_0 (by decide) ?_)
  have key : ∀ p, p ≤ ab_n A → 0 < p → h_X9_turnerSays_4 3 (qP I L z (aTu A)) (0, 0) I L z (Int32.ofNat (aTb A p)) (Int32.ofNat p) := by
    refine xcount _ (ab_n A) ?_ ?_
    · intro p hp K p0
      refine g_X9_turnerSays_4 (by decide) ?_
      rw [nn, if_pos ((xv_lt (by omega) (by omega)).mpr hp)]
      refine xuse (t_splitM (k := 0) hA hM hR hp (by decide)) (by decide) ?_
      rintro _ _ ⟨rfl, rfl⟩
      refine g_X9_turnerSays_18 (by decide) ?_
      have ht := aTb_lt A p p0
      refine xuse (t_splitM (k := 0) hA hM hR (show aTb A p < ab_n A by omega) (by decide)) (by decide) ?_
      rintro _ _ ⟨rfl, rfl⟩
      refine g_X9_turnerSays_24 (by decide) ?_
      have s2 := aSplit_le A p 0 10
      have s3 := aSplit_le A (aTb A p) 0 10
      have et : aTb A (p + 1) = if aSplit A (aTb A p) 0 10 < aSplit A p 0 10 then p else aTb A p := rfl
      rw [show Int32.ofNat p + 1 = Int32.ofNat (p + 1) from xv_add p 1]
      have K := K (by omega)
      by_cases c : aSplit A (aTb A p) 0 10 < aSplit A p 0 10
      · rw [if_pos ((xv_lt (by omega) (by omega)).mpr c)]
        rw [et, if_pos c] at K
        exact K
      · rw [if_neg (fun x => c ((xv_lt (by omega) (by omega)).mp x))]
        rw [et, if_neg c] at K
        exact K
    · intro p0
      refine g_X9_turnerSays_4 (by decide) ?_
      rw [nn, if_neg (fun q => Nat.lt_irrefl _ ((xv_lt (by omega) (by omega)).mp q))]
      have ht := aTb_lt A _ p0
      refine xuse (t_splitM (k := 0) hA hM hR ht (by decide)) (by decide) ?_
      rintro _ _ ⟨rfl, rfl⟩
      refine g_X9_turnerSays_45 (by decide) ?_
      have s3 := aSplit_le A (aTb A (ab_n A)) 0 10
      unfold aTu
      have ea : (10 : Int32) * Int32.ofNat (aTb A (ab_n A)) = Int32.ofNat (10 * aTb A (ab_n A)) := by
        rw [show (10 : Int32) = Int32.ofNat 10 from rfl, xv_mul]
      rw [ea]
      by_cases c : aSplit A (aTb A (ab_n A)) 0 10 = 1
      · rw [if_pos c, if_pos (show Int32.ofNat _ = (1 : Int32) by rw [c]; rfl)]
        exact ⟨rfl, rfl⟩
      · rw [if_neg c, if_neg (show ¬ Int32.ofNat (aSplit A (aTb A (ab_n A)) 0 10) = (1 : Int32) from fun q => c ((xv_eq (b := 1) (by omega) (by decide)).mp q))]
        exact ⟨rfl, rfl⟩
  have k1 := key 1 (by omega) (by decide)
  have : aTb A 1 = 0 := by
    show (if aSplit A 0 0 10 < aSplit A 0 0 10 then 0 else 0) = 0
    split <;> rfl
  rw [this] at k1
  exact k1
/-- who minds most -/
def aGm (A : xAb) : Nat → Nat
  | 0 => 0
  | i + 1 => if ab_mind A (aGm A i) < ab_mind A i then i else aGm A i
theorem aGm_1 (A : xAb) : aGm A 1 = 0 := by
  show (if ab_mind A 0 < ab_mind A 0 then 0 else 0) = 0
  split <;> rfl
theorem aGm_lt (A : xAb) : ∀ i, 0 < i → aGm A i < i
  | 0, h => absurd h (by decide)
  | i + 1, _ => by
    simp only [aGm]
    by_cases e : 0 < i
    · have := aGm_lt A i e
      split <;> omega
    · have : i = 0 := by omega
      subst this
      show (if ab_mind A 0 < ab_mind A 0 then 0 else 0) < 1
      split <;> decide
theorem t_mostX {A : xAb} {I : xI} {L : xL} {z : Bool × Bool × Nat} (hA : abOK A) (hX : xTX I 10 A) : xCd 2 16 [.ref 50] (xS I L z) (qP I L z (Int32.ofNat (aGm A (ab_n A)))) := by
  have h2 := hA.1.1
  have h6 := hA.1.2
  have nn := hX.1.1
  have fm : ∀ g, g < 6 → f_X6_mindOf I L (Int32.ofNat g) = Int32.ofNat (ab_mind A g) := fun g hg => by
    have q : I 15 g = Int32.ofNat (ab_mind A g) := hX.2.2.2.2.2.1 g hg
    unfold f_X6_mindOf
    simp (disch := omega) only [xl_0, xl_1, xl_2, xl_3, xl_4, xl_5, xl_6, xl_7, xl_8, xl_9, xl_10, xl_15, xl_18, xl_24, xl_31, xl_32, xl_36, xl_40, xl_48, xl_63, xl_64, xl_144, xl_250, xl_320, xl_720, xl_721, xl_1000, xl_1023, xl_1024, xv_lt, xv_eq, xv_in, xv_clamp, xv_add, xv_mul, xv_dec, xv_div, xv_mod, xv_m1, xv_m1', xv_and, xv_or, xv_shl, xv_shr, xv_bit0, xv_bit1, Nat.not_lt_zero, hg, if_true, if_false, q]
  refine c_X0_guestWhoMindsMost (g_X0_guestWhoMindsMost_0 (by decide) ?_)
  have key : ∀ g, g ≤ ab_n A → 0 < g → h_X0_guestWhoMindsMost_4 1 (qP I L z (Int32.ofNat (aGm A (ab_n A)))) (0, 0) I L z (Int32.ofNat (aGm A g)) (Int32.ofNat g) := by
    refine xcount _ (ab_n A) ?_ ?_
    · intro g hg K g0
      refine g_X0_guestWhoMindsMost_4 (by decide) ?_
      have hl := aGm_lt A g g0
      have m1 := hA.2.2.2.2.2.2.2.1 g (by omega)
      have m2 := hA.2.2.2.2.2.2.2.1 (aGm A g) (by omega)
      have K := K (by omega)
      have eg : aGm A (g + 1) = if ab_mind A (aGm A g) < ab_mind A g then g else aGm A g := rfl
      rw [nn, if_pos ((xv_lt (by omega) (by omega)).mpr hg), fm g (by omega), fm _ (by omega), show Int32.ofNat g + 1 = Int32.ofNat (g + 1) from xv_add g 1]
      by_cases c : ab_mind A (aGm A g) < ab_mind A g
      · rw [if_pos ((xv_lt (by omega) (by omega)).mpr c)]
        rw [eg, if_pos c] at K
        exact K
      · rw [if_neg (fun x => c ((xv_lt (by omega) (by omega)).mp x))]
        rw [eg, if_neg c] at K
        exact K
    · intro g0
      refine g_X0_guestWhoMindsMost_4 (by decide) ?_
      rw [nn, if_neg (fun q => Nat.lt_irrefl _ ((xv_lt (by omega) (by omega)).mp q))]
      exact ⟨rfl, rfl⟩
  have k1 := key 1 (by omega) (by decide)
  rw [aGm_1] at k1
  exact k1
theorem path_lt {A : xAb} : ∀ m u k, u < 2 ^ ab_n A → pcn u (ab_n A) + m = ab_n A → k < m → gd (aPath A m u) k < ab_n A
  | 0, _, _, _, _, h => absurd h (Nat.not_lt_zero _)
  | m + 1, u, k, hu, hpc, hk => by
    obtain ⟨q, q1, q2, q3⟩ := aFb_ex (A := A) (m := m) (u := u) (by omega)
    have e : aPath A (m + 1) u = q :: aPath A m (u ||| 1 * 2 ^ q) := by
      show (match aFb A m u with
        | none => []
        | some q => q :: aPath A m (u ||| 1 * 2 ^ q)) = _
      rw [q1]
    rw [e]
    cases k with
    | zero => exact q2
    | succ k =>
      have hpc' := pcn_add q3 (ab_n A)
      rw [if_pos q2] at hpc'
      exact path_lt m (u ||| 1 * 2 ^ q) k (tb_lt hu q2) (by omega) (by omega)
def aBp (A : xAb) : Nat := gd (aPath A (ab_n A) 0) (aGm A (ab_n A))
theorem aBp_lt {A : xAb} (hA : abOK A) : aBp A < ab_n A := path_lt _ _ _ (Nat.two_pow_pos _) (by rw [pcn_0]; omega) (aGm_lt A _ (by have := hA.1.1; omega))
/-- what a teller of a kind and a number says; p is the first place that isn't known -/
def aSay (A : xAb) (kd a p : Nat) : Int32 :=
  if (aP A).length < 2 then -1 else
  if kd = 1 then aTu A else if kd = 2 then Int32.ofNat (10 * p + 3) else if kd = 3 then nxA (aNx A 7 (ab_n A * 4)) else
  if kd = 4 then (match aNx A 7 (ab_n A * 4) with
    | none => -1
    | some (f, l) => if l < (aP A).length then Int32.ofNat f else nxA (aNx A 8 (ab_n A * 4))) else
  if kd = 5 then (if pcn (aSb A (aBp A) 6) 6 ≤ 1 then Int32.ofNat (10 * p + 3) else Int32.ofNat (10 * aBp A + 3)) else Int32.ofNat (10 * p + a % 4)
theorem nx7 {A : xAb} (hA : abOK A) : ∃ f l, aNx A 7 (ab_n A * 4) = some (f, l) ∧ l = aWorst A (f / 10) (f % 10) 10 ∧ f / 10 < ab_n A ∧ f % 10 < 4 ∧ f < 54 := by
  have h2 := hA.1.1
  have h6 := hA.1.2
  cases c : aNx A 7 (ab_n A * 4) with
  | none => exact absurd (aNx_none _ c 0 (by omega)) (by decide)
  | some w =>
    obtain ⟨f, l⟩ := w
    obtain ⟨_, j, b1, b2, b3, b4⟩ := aNx_ok A 7 _ _ _ c
    have e1 : f / 10 = j / 4 := by omega
    have e2 : f % 10 = j % 4 := by omega
    exact ⟨f, l, rfl, by rw [e1, e2]; exact b3, by omega, by omega, by omega⟩
theorem t_sayX {A : xAb} {I : xI} {L : xL} {z : Bool × Bool × Nat} {t p : Nat} (hA : abOK A) (hX : xTX I 10 A) (hP : xPos A I) (ht : t < (ab_tell A).length) (hp : 2 ≤ (aP A).length → isFu A p) : xCd 8 75 [.ref 56, .int (Int32.ofNat t)] (xS I L z) (qV scrB I L z (aSay A ((ab_tell A).getD t (0, 0)).1 ((ab_tell A).getD t (0, 0)).2 p) (fun _ => True)) := by
  have h2 := hA.1.1
  have h6 := hA.1.2
  have hl := aP_len hA
  have t4 := hA.2.2.2.2.2.2.2.2.2.1
  obtain ⟨k1, k2⟩ := hX.2.2.2.2.2.2.2 t ht
  have hmem : (ab_tell A).getD t (0, 0) ∈ ab_tell A := by
    rw [List.getD_eq_getElem?_getD, List.getElem?_eq_getElem ht]; exact List.getElem_mem ht
  obtain ⟨b1, b2⟩ := hA.2.2.2.2.2.2.2.2.2.2 _ hmem
  generalize (ab_tell A).getD t (0, 0) = q at *
  obtain ⟨kd, a⟩ := q
  simp only at k1 k2 b1 b2 ⊢
  have pt : p_X6_hasTeller I L (Int32.ofNat t) := ⟨xv_neg (by omega), by rw [hX.1.2.2.2.2]; exact (xv_lt (by omega) (by omega)).mpr ht, (xv_lt (b := 4) (by omega) (by decide)).mpr (by omega)⟩
  have it : xin (Int32.ofNat t) 4 := (xv_in (by omega)).mpr (by omega)
  have fk : f_X6_kindOf I L (Int32.ofNat t) = Int32.ofNat kd := by
    unfold f_X6_kindOf
    rw [if_pos pt, if_pos it, xv_clamp (by omega)]; exact k1
  have fn : f_X6_tellerNumberOf I L (Int32.ofNat t) = Int32.ofNat a := by
    unfold f_X6_tellerNumberOf
    rw [if_pos pt, if_pos it, xv_clamp (by omega)]; exact k2
  refine c_X5_sayingOf (g_X5_sayingOf_0 (by decide) ?_)
  rw [fk, fn, hP.1]
  unfold aSay
  by_cases c : (aP A).length < 2
  · rw [if_pos c, if_neg (show ¬ (1 : Int32) < Int32.ofNat (aP A).length from fun x => by have := (xv_lt (a := 1) (by decide) (by omega)).mp x; omega)]
    exact ⟨rfl, I, rfl, xsm_refl _ _, trivial⟩
  · have hf := hp (by omega)
    rw [if_neg c, if_pos (show (1 : Int32) < Int32.ofNat (aP A).length from (xv_lt (a := 1) (by decide) (by omega)).mpr (by omega))]
    have ek : kd = 0 ∨ kd = 1 ∨ kd = 2 ∨ kd = 3 ∨ kd = 4 ∨ kd = 5 := by omega
    rcases ek with rfl | rfl | rfl | rfl | rfl | rfl
    · rw [if_pos (by decide), if_neg (by decide), if_neg (by decide), if_neg (by decide), if_neg (by decide), if_neg (by decide)]
      have em : Int32.ofNat a - Int32.ofNat a / 4 * 4 = Int32.ofNat (a % 4) := by simp (disch := omega) only [xl_0, xl_1, xl_2, xl_3, xl_4, xl_5, xl_6, xl_7, xl_8, xl_9, xl_10, xl_15, xl_18, xl_24, xl_31, xl_32, xl_36, xl_40, xl_48, xl_63, xl_64, xl_144, xl_250, xl_320, xl_720, xl_721, xl_1000, xl_1023, xl_1024, xv_lt, xv_eq, xv_in, xv_clamp, xv_add, xv_mul, xv_dec, xv_div, xv_mod, xv_m1, xv_m1', xv_and, xv_or, xv_shl, xv_shr, xv_bit0, xv_bit1]
      rw [em]
      refine xuse (t_firstUnknownX hA hX hP hf) (by decide) ?_
      rintro _ _ ⟨rfl, rfl⟩
      exact g_X5_sayingOf_74 (by decide) ⟨rfl, I, rfl, xsm_refl _ _, trivial⟩
    · rw [if_neg (by decide), if_pos (by decide), if_pos (by decide)]
      refine xuse (t_shadesX hA hX hP (by omega)) (by decide) ?_
      rintro _ _ ⟨rfl, rfl⟩
      exact g_X5_sayingOf_79 (by decide) ⟨rfl, I, rfl, xsm_refl _ _, trivial⟩
    · rw [if_neg (by decide), if_neg (by decide), if_pos (by decide), if_neg (by decide), if_pos (by decide)]
      refine xuse (t_firstUnknownX (k := 3) hA hX hP hf) (by decide) ?_
      rintro _ _ ⟨rfl, rfl⟩
      exact g_X5_sayingOf_85 (by decide) ⟨rfl, I, rfl, xsm_refl _ _, trivial⟩
    · rw [if_neg (by decide), if_neg (by decide), if_neg (by decide), if_pos (by decide), if_neg (by decide), if_neg (by decide), if_pos (by decide)]
      refine xuse (t_nextX (ks := 7) hA hX hP (by decide)) (by decide) ?_
      rintro _ _ ⟨rfl, rfl⟩
      exact g_X5_sayingOf_95 (by decide) ⟨rfl, I, rfl, xsm_refl _ _, trivial⟩
    · rw [if_neg (by decide), if_neg (by decide), if_neg (by decide), if_neg (by decide), if_pos (by decide), if_neg (by decide), if_neg (by decide), if_neg (by decide), if_pos (by decide)]
      obtain ⟨f, l, n1, n2, n3, n4, n5⟩ := nx7 hA
      refine xuse (d := 6) (c := 78) (F := qP I L z (if l < (aP A).length then Int32.ofNat f else nxA (aNx A 8 (ab_n A * 4)))) ?_ (by decide) ?_
      · refine c_X5_lookOrSip (g_X5_lookOrSip_0 (by decide) ?_)
        refine xuse (t_nextX (ks := 7) hA hX hP (by decide)) (by decide) ?_
        rintro _ _ ⟨rfl, rfl⟩
        refine g_X5_lookOrSip_9 (by decide) ?_
        rw [n1, show nxA (some (f, l)) = Int32.ofNat f from rfl]
        have e1 : Int32.ofNat f / 10 = Int32.ofNat (f / 10) := by simp (disch := omega) only [xl_0, xl_1, xl_2, xl_3, xl_4, xl_5, xl_6, xl_7, xl_8, xl_9, xl_10, xl_15, xl_18, xl_24, xl_31, xl_32, xl_36, xl_40, xl_48, xl_63, xl_64, xl_144, xl_250, xl_320, xl_720, xl_721, xl_1000, xl_1023, xl_1024, xv_lt, xv_eq, xv_in, xv_clamp, xv_add, xv_mul, xv_dec, xv_div, xv_mod, xv_m1, xv_m1', xv_and, xv_or, xv_shl, xv_shr, xv_bit0, xv_bit1]
        have e2 : Int32.ofNat f - Int32.ofNat (f / 10) * 10 = Int32.ofNat (f % 10) := by simp (disch := omega) only [xl_0, xl_1, xl_2, xl_3, xl_4, xl_5, xl_6, xl_7, xl_8, xl_9, xl_10, xl_15, xl_18, xl_24, xl_31, xl_32, xl_36, xl_40, xl_48, xl_63, xl_64, xl_144, xl_250, xl_320, xl_720, xl_721, xl_1000, xl_1023, xl_1024, xv_lt, xv_eq, xv_in, xv_clamp, xv_add, xv_mul, xv_dec, xv_div, xv_mod, xv_m1, xv_m1', xv_and, xv_or, xv_shl, xv_shr, xv_bit0, xv_bit1]
        rw [e1, e2]
        refine xuse (t_worstX hA hX hP n3 n4) (by decide) ?_
        rintro _ _ ⟨rfl, rfl⟩
        refine g_X5_lookOrSip_25 (by decide) ?_
        rw [← n2, hP.1]
        have hw := aWorst_le A (f / 10) (f % 10) 10
        by_cases d : l < (aP A).length
        · rw [if_pos d, if_pos ((xv_lt (by omega) (by omega)).mpr d)]
          exact ⟨rfl, rfl⟩
        · rw [if_neg d, if_neg (fun x => d ((xv_lt (by omega) (by omega)).mp x))]
          refine xuse (t_nextX (ks := 8) hA hX hP (by decide)) (by decide) ?_
          rintro _ _ ⟨rfl, rfl⟩
          exact g_X5_lookOrSip_46 (by decide) ⟨rfl, rfl⟩
      · rintro _ _ ⟨rfl, rfl⟩
        refine g_X5_sayingOf_100 (by decide) ⟨?_, I, rfl, xsm_refl _ _, trivial⟩
        rw [n1]
    · rw [if_neg (by decide), if_neg (by decide), if_neg (by decide), if_neg (by decide), if_neg (by decide), if_pos (by decide), if_neg (by decide), if_neg (by decide), if_neg (by decide), if_neg (by decide), if_pos (by decide)]
      refine xuse (d := 6) (c := 79) (F := qV scrB I L z (if pcn (aSb A (aBp A) 6) 6 ≤ 1 then Int32.ofNat (10 * p + 3) else Int32.ofNat (10 * aBp A + 3)) (fun _ => True)) ?_ (by decide) ?_
      · refine c_X5_sipOfWhoMindsMost (g_X5_sipOfWhoMindsMost_0 (by decide) ?_)
        refine xuse (t_findBestX hA hX hP) (by decide) ?_
        rintro _ _ ⟨rfl, J, rfl, j0, j1, j2⟩
        refine g_X5_sipOfWhoMindsMost_7 (by decide) ?_
        have hX' : xTX J 10 A := xTX_sm j0 (fun k hk => by unfold scrB; omega) (fun o a b k => by unfold scrB; omega) hX
        have hP' : xPos A J := xPos_sm j0 ⟨by unfold scrB; omega, fun k => by unfold scrB; omega, fun k => by unfold scrB; omega⟩ hP
        refine xuse (t_mostX hA hX') (by decide) ?_
        rintro _ _ ⟨rfl, rfl⟩
        refine g_X5_sipOfWhoMindsMost_18 (by decide) ?_
        have gl := aGm_lt A (ab_n A) (by omega)
        have pl := aBp_lt hA
        have fb : f_X0_bestPlaceOf J L (Int32.ofNat (aGm A (ab_n A))) = Int32.ofNat (aBp A) := by
          have g6 : aGm A (ab_n A) < 6 := by omega
          have q := j2 _ gl
          unfold f_X0_bestPlaceOf
          simp (disch := omega) only [xl_0, xl_1, xl_2, xl_3, xl_4, xl_5, xl_6, xl_7, xl_8, xl_9, xl_10, xl_15, xl_18, xl_24, xl_31, xl_32, xl_36, xl_40, xl_48, xl_63, xl_64, xl_144, xl_250, xl_320, xl_720, xl_721, xl_1000, xl_1023, xl_1024, xv_lt, xv_eq, xv_in, xv_clamp, xv_add, xv_mul, xv_dec, xv_div, xv_mod, xv_m1, xv_m1', xv_and, xv_or, xv_shl, xv_shr, xv_bit0, xv_bit1, Nat.not_lt_zero, g6, if_true, if_false, q]
          rfl
        rw [fb]
        refine xuse (t_isKnownX hA hP' (by omega)) (by decide) ?_
        rintro _ _ ⟨⟨v, rfl, v1, _⟩, rfl⟩
        refine g_X5_sipOfWhoMindsMost_30 (by decide) ?_
        by_cases d : pcn (aSb A (aBp A) 6) 6 ≤ 1
        · rw [if_pos d, if_neg (fun x => v1.mp x d)]
          refine xuse (t_firstUnknownX (k := 3) hA hX' hP' hf) (by decide) ?_
          rintro _ _ ⟨rfl, rfl⟩
          exact g_X5_sipOfWhoMindsMost_38 (by decide) ⟨rfl, J, rfl, j0, trivial⟩
        · rw [if_neg d, if_pos (v1.mpr d)]
          refine ⟨?_, J, rfl, j0, trivial⟩
          rw [show (10 : Int32) * Int32.ofNat (aBp A) + 3 = Int32.ofNat (10 * aBp A + 3) by rw [show (10 : Int32) = Int32.ofNat 10 from rfl, show (3 : Int32) = Int32.ofNat 3 from rfl, xv_mul, xv_add]]
      · rintro _ _ ⟨rfl, J, rfl, j0, _⟩
        exact g_X5_sayingOf_105 (by decide) ⟨rfl, J, rfl, j0, trivial⟩
