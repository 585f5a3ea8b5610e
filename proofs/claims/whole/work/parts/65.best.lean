/-! the best handing: the least from each set of places that are taken -/
def oI (o : Option Nat) : Int32 := match o with
  | none => -1
  | some q => Int32.ofNat q
def fbV (val : Nat → Nat) (u : Nat) : Nat → Option Nat
  | 0 => none
  | i + 1 => if u.testBit i = true then fbV val u i else (match fbV val u i with
    | none => some i
    | some q => if val i < val q then some i else some q)
theorem fbV_some {val : Nat → Nat} {u : Nat} : ∀ i q, fbV val u i = some q → q < i ∧ u.testBit q = false
  | 0, q, h => by simp [fbV] at h
  | i + 1, q, h => by
    simp only [fbV] at h
    by_cases e : u.testBit i = true
    · rw [if_pos e] at h
      have := fbV_some i q h
      exact ⟨by omega, this.2⟩
    · rw [if_neg e] at h
      have e0 : u.testBit i = false := by cases c : u.testBit i with | true => exact absurd c e | false => rfl
      cases c : fbV val u i with
      | none =>
        rw [c] at h
        simp only [Option.some.injEq] at h
        subst h
        exact ⟨by omega, e0⟩
      | some r =>
        rw [c] at h
        simp only at h
        have ih := fbV_some i r c
        by_cases d : val i < val r
        · rw [if_pos d, Option.some.injEq] at h
          subst h
          exact ⟨by omega, e0⟩
        · rw [if_neg d, Option.some.injEq] at h
          subst h
          exact ⟨by omega, ih.2⟩
theorem fbV_none {val : Nat → Nat} {u : Nat} : ∀ i, fbV val u i = none → pcn u i = i
  | 0, _ => rfl
  | i + 1, h => by
    simp only [fbV] at h
    simp only [pcn]
    by_cases e : u.testBit i = true
    · rw [if_pos e] at h
      rw [if_pos e, fbV_none i h]
    · rw [if_neg e] at h
      exfalso
      cases c : fbV val u i with
      | none => rw [c] at h; simp at h
      | some r =>
        rw [c] at h
        simp only at h
        split at h <;> simp at h
theorem fbV_congr {val val' : Nat → Nat} {u : Nat} : ∀ i, (∀ p, p < i → u.testBit p = false → val p = val' p) → fbV val u i = fbV val' u i
  | 0, _ => rfl
  | i + 1, h => by
    have ih := fbV_congr i (fun p hp => h p (by omega))
    simp only [fbV]
    rw [ih]
    by_cases e : u.testBit i = true
    · rw [if_pos e, if_pos e]
    · rw [if_neg e, if_neg e]
      have e0 : u.testBit i = false := by cases c : u.testBit i with | true => exact absurd c e | false => rfl
      cases c : fbV val' u i with
      | none => rfl
      | some q =>
        have := fbV_some i q c
        simp only
        rw [h i (by omega) e0, h q (by omega) this.2]
def wgt (A : xAb) (g p : Nat) : Nat := ab_mind A g * aMd A g p
def aLM (A : xAb) : Nat → Nat → Nat
  | 0, _ => 0
  | m + 1, u => match fbV (fun p => wgt A (ab_n A - (m + 1)) p + aLM A m (u ||| 1 * 2 ^ p)) u (ab_n A) with
    | none => 0
    | some q => wgt A (ab_n A - (m + 1)) q + aLM A m (u ||| 1 * 2 ^ q)
def aVal (A : xAb) (m u : Nat) : Nat → Nat := fun p => wgt A (ab_n A - (m + 1)) p + aLM A m (u ||| 1 * 2 ^ p)
def aFb (A : xAb) (m u : Nat) : Option Nat := fbV (aVal A m u) u (ab_n A)
theorem aLM_s (A : xAb) (m u : Nat) : aLM A (m + 1) u = match aFb A m u with
    | none => 0
    | some q => aVal A m u q := rfl
def aPath (A : xAb) : Nat → Nat → List Nat
  | 0, _ => []
  | m + 1, u => match aFb A m u with
    | none => []
    | some q => q :: aPath A m (u ||| 1 * 2 ^ q)
theorem wgt_le {A : xAb} (hA : abOK A) {g p : Nat} (hg : g < 6) : wgt A g p ≤ 6480 := by
  have h1 := hA.2.2.2.2.2.2.2.1 g hg
  have h2 := aMd_le A g p
  have h3 := aP_len hA
  exact Nat.le_trans (Nat.mul_le_mul (show ab_mind A g ≤ 9 by omega) (show aMd A g p ≤ 720 by omega)) (by decide)
theorem aLM_le {A : xAb} (hA : abOK A) : ∀ m u, m ≤ ab_n A → aLM A m u ≤ m * 6480
  | 0, _, _ => Nat.zero_le _
  | m + 1, u, h => by
    have h6 := hA.1.2
    rw [aLM_s]
    cases aFb A m u with
    | none => exact Nat.zero_le _
    | some q =>
      show wgt A (ab_n A - (m + 1)) q + aLM A m (u ||| 1 * 2 ^ q) ≤ _
      have := aLM_le hA m (u ||| 1 * 2 ^ q) (by omega)
      have := wgt_le hA (g := ab_n A - (m + 1)) (p := q) (by omega)
      omega
theorem aVal_le {A : xAb} (hA : abOK A) {m u p : Nat} (h : m < ab_n A) : aVal A m u p ≤ 45360 := by
  have h6 := hA.1.2
  have h1 := aLM_le hA m (u ||| 1 * 2 ^ p) (by omega)
  have h2 := wgt_le hA (g := ab_n A - (m + 1)) (p := p) (by omega)
  unfold aVal
  omega
theorem tb_lt {u n p : Nat} (h : u < 2 ^ n) (hp : p < n) : u ||| 1 * 2 ^ p < 2 ^ n := by
  rw [Nat.one_mul]
  exact Nat.or_lt_two_pow h (Nat.pow_lt_pow_of_lt (by decide) hp)
theorem pcn_add {u p : Nat} (h : u.testBit p = false) : ∀ n, pcn (u ||| 1 * 2 ^ p) n = pcn u n + (if p < n then 1 else 0)
  | 0 => rfl
  | n + 1 => by
    have ih := pcn_add h n
    simp only [pcn]
    rw [ih, or_bit]
    by_cases e : p = n
    · subst e
      rw [decide_eq_true rfl, Bool.or_true, if_neg (Nat.lt_irrefl _), if_pos rfl, h, if_neg (by decide), if_pos (Nat.lt_succ_self _)]
    · rw [decide_eq_false e, Bool.or_false]
      by_cases q : p < n
      · rw [if_pos q, if_pos (show p < n + 1 by omega)]; omega
      · rw [if_neg q, if_neg (show ¬ p < n + 1 by omega)]; omega
theorem or_gt {u p : Nat} (h : u.testBit p = false) : u < u ||| 1 * 2 ^ p := by
  refine Nat.lt_of_le_of_ne (by rw [Nat.one_mul]; exact Nat.left_le_or) fun e => ?_
  have := or_bit (m := u) (s := p) (t := p)
  rw [← e, h, decide_eq_true rfl] at this
  exact absurd this (by decide)
theorem cnd_0 {I : xI} {u p : Nat} (hu : u < 2147483648) (hp : p < 32) : (((Int32.ofNat u >>> (Int32.ofNat p &&& 31)) &&& 1) = 0) ↔ u.testBit p = false := by
  rw [show (31 : Int32) = Int32.ofNat 31 from rfl, show (1 : Int32) = Int32.ofNat 1 from rfl, show (0 : Int32) = Int32.ofNat 0 from rfl, xv_and, xv_shr hu hp, xv_and]
  exact xv_bit0
theorem has_iff {I : xI} {L : xL} {u p : Nat} (hu : u < 2147483648) (hp : p < 32) : p_X9_has I L (Int32.ofNat u) (Int32.ofNat p) ↔ u.testBit p = true := by
  show ¬ ((Int32.ofNat u >>> (Int32.ofNat p &&& 31)) &&& 1) = 0 ↔ _
  rw [cnd_0 (I := I) hu hp]
  cases u.testBit p <;> simp
theorem t_firstBest {A : xAb} {I : xI} {L : xL} {z : Bool × Bool × Nat} {g u : Nat} {W Lf : Nat → Nat} (hA : abOK A) (hn : I 10 0 = Int32.ofNat (ab_n A)) (hg : g < 6) (hu : u < 2 ^ ab_n A) (hW : ∀ p, p < ab_n A → I 51 (g * 6 + p) = Int32.ofNat (W p)) (hL : ∀ p, p < ab_n A → u.testBit p = false → I 52 (u ||| 1 * 2 ^ p) = Int32.ofNat (Lf p)) (hb : ∀ p, W p + Lf p < 2147483648) : xCd 2 12 [.ref 50, .int (Int32.ofNat g), .int (Int32.ofNat u)] (xS I L z) (qP I L z (oI (fbV (fun p => W p + Lf p) u (ab_n A)))) := by
  have h6 := hA.1.2
  have hp64 : 2 ^ ab_n A ≤ 64 := Nat.pow_le_pow_right (show 0 < 2 by decide) h6
  have mw : ∀ p, p < ab_n A → u.testBit p = false → xCd 1 13 [.ref 50, .int (Int32.ofNat g), .int (Int32.ofNat u), .int (Int32.ofNat p)] (xS I L z) (qP I L z (Int32.ofNat (W p + Lf p))) := by
    intro p hp hb
    refine c_X0_meanWith ?_
    have q1 : g * 6 + p < 36 := by omega
    have q2 : u ||| 1 * 2 ^ p < 64 := Nat.lt_of_lt_of_le (tb_lt hu hp) hp64
    simp (disch := omega) only [xl_0, xl_1, xl_2, xl_3, xl_4, xl_5, xl_6, xl_7, xl_8, xl_9, xl_10, xl_15, xl_18, xl_24, xl_31, xl_32, xl_36, xl_40, xl_48, xl_63, xl_64, xl_144, xl_250, xl_320, xl_720, xl_721, xl_1000, xl_1023, xl_1024, xv_lt, xv_eq, xv_in, xv_clamp, xv_add, xv_mul, xv_dec, xv_div, xv_mod, xv_m1, xv_m1', xv_and, xv_or, xv_shl, xv_shr, xv_bit0, xv_bit1, Nat.not_lt_zero, q1, q2, if_true, if_false, hW p hp, hL p hp hb]
    exact ⟨rfl, rfl⟩
  refine c_X0_firstBest (g_X0_firstBest_0 (by decide) ?_)
  have key : ∀ p, p ≤ ab_n A → h_X0_firstBest_5 1 (qP I L z (oI (fbV (fun p => W p + Lf p) u (ab_n A)))) (0, 0) I L z (Int32.ofNat g) (Int32.ofNat u) (oI (fbV (fun p => W p + Lf p) u p)) (Int32.ofNat p) := by
    refine xcount _ (ab_n A) ?_ ?_
    · intro p hp K
      refine g_X0_firstBest_5 (by decide) ?_
      rw [hn, if_pos ((xv_lt (by omega) (by omega)).mpr hp)]
      simp only [fbV] at K
      by_cases e : u.testBit p = true
      · rw [if_pos e] at K
        rw [if_neg (fun x => by rw [(cnd_0 (I := I) (by omega) (by omega)).mp x] at e; exact absurd e (by decide)), show Int32.ofNat p + 1 = Int32.ofNat (p + 1) from xv_add p 1]
        exact K
      · have e0 : u.testBit p = false := by cases c : u.testBit p with | true => exact absurd c e | false => rfl
        rw [if_neg e] at K
        rw [if_pos ((cnd_0 (I := I) (by omega) (by omega)).mpr e0), show Int32.ofNat p + 1 = Int32.ofNat (p + 1) from xv_add p 1]
        cases c : fbV (fun p => W p + Lf p) u p with
        | none =>
          rw [c] at K
          rw [if_pos (show oI none = (-1 : Int32) from rfl)]
          exact K
        | some q =>
          rw [c] at K
          have hq := fbV_some _ _ c
          simp only at K
          rw [if_neg (show ¬ oI (some q) = (-1 : Int32) from fun x => by
            have := xv_m1 (a := q) (b := 1) (by omega) (by decide) (by decide)
            rw [show oI (some q) = Int32.ofNat q from rfl, show (-1 : Int32) = -(Int32.ofNat 1) from rfl, this] at x
            exact x)]
          refine xuse (mw p hp e0) (by decide) ?_
          rintro _ _ ⟨rfl, rfl⟩
          refine g_X0_firstBest_39 (by decide) ?_
          refine xuse (mw q (by omega) hq.2) (by decide) ?_
          rintro _ _ ⟨rfl, rfl⟩
          refine g_X0_firstBest_46 (by decide) ?_
          rw [show Int32.ofNat p + 1 = Int32.ofNat (p + 1) from xv_add p 1]
          by_cases d : W p + Lf p < W q + Lf q
          · rw [if_pos d] at K
            rw [if_pos ((xv_lt (hb p) (hb q)).mpr d)]
            exact K
          · rw [if_neg d] at K
            rw [if_neg (fun x => d ((xv_lt (hb p) (hb q)).mp x))]
            exact K
    · refine g_X0_firstBest_5 (by decide) ?_
      rw [hn, if_neg (fun q => Nat.lt_irrefl _ ((xv_lt (by omega) (by omega)).mp q))]
      exact ⟨rfl, rfl⟩
  exact key 0 (by omega)
def scrB : Nat → Nat → Prop := fun o _ => o = 51 ∨ o = 52 ∨ o = 53
theorem t_weigh {A : xAb} {I : xI} {L : xL} {z : Bool × Bool × Nat} (hA : abOK A) (hX : xTX I 10 A) (hP : xPos A I) : xCd 3 11 [.ref 50] (xS I L z) (qN scrB I L z (fun J => ∀ g, g < 6 → ∀ p, p < ab_n A → J 51 (g * 6 + p) = Int32.ofNat (wgt A g p))) := by
  have h6 := hA.1.2
  refine c_X0_weighPlaces (g_X0_weighPlaces_0 (by decide) ?_)
  have key : ∀ g, g ≤ 6 → ∀ J : xI, xsm scrB I J → (∀ h, h < g → ∀ p, p < ab_n A → J 51 (h * 6 + p) = Int32.ofNat (wgt A h p)) → h_X0_weighPlaces_2 2 (qN scrB I L z (fun J => ∀ g, g < 6 → ∀ p, p < ab_n A → J 51 (g * 6 + p) = Int32.ofNat (wgt A g p))) (0, 0) J L z (Int32.ofNat g) := by
    refine xcount _ 6 ?_ ?_
    · intro g hg K J hJ j0
      refine g_X0_weighPlaces_2 (by decide) ?_
      rw [if_pos (show Int32.ofNat g < (6 : Int32) from (xv_lt (b := 6) (by omega) (by decide)).mpr hg)]
      have key2 : ∀ p, p ≤ 6 → ∀ J : xI, xsm scrB I J → (∀ h, h < g → ∀ p, p < ab_n A → J 51 (h * 6 + p) = Int32.ofNat (wgt A h p)) → (∀ q, q < p → q < ab_n A → J 51 (g * 6 + q) = Int32.ofNat (wgt A g q)) → h_X0_weighPlaces_10 2 (qN scrB I L z (fun J => ∀ g, g < 6 → ∀ p, p < ab_n A → J 51 (g * 6 + p) = Int32.ofNat (wgt A g p))) (0, 0) J L z (Int32.ofNat g) (Int32.ofNat p) := by
        refine xcount _ 6 ?_ ?_
        · intro p hp K2 J hJ j0 j1
          refine g_X0_weighPlaces_10 (by decide) ?_
          have q1 : g * 6 + p < 36 := by omega
          rw [if_pos (show Int32.ofNat p < (6 : Int32) from (xv_lt (b := 6) (by omega) (by decide)).mpr hp)]
          have ix : Int32.ofNat g * 6 + Int32.ofNat p = Int32.ofNat (g * 6 + p) := by rw [show (6 : Int32) = Int32.ofNat 6 from rfl, xv_mul, xv_add]
          rw [ix, if_pos ((xv_in (by omega)).mpr q1), xv_clamp (by omega), show Int32.ofNat p + 1 = Int32.ofNat (p + 1) from xv_add p 1]
          refine K2 _ (xsm_xw (Or.inl rfl) hJ) (fun h hh q hq => by rw [xw_ne2 (by omega)]; exact j0 h hh q hq) ?_
          intro q hq hqn
          by_cases e : q = p
          · subst e
            rw [xw_eq, f_wrong hA (xTX_sm hJ (fun k hk => by unfold scrB; omega) (fun o a b k => by unfold scrB; omega) hX) (xPos_sm hJ ⟨by unfold scrB; omega, fun k => by unfold scrB; omega, fun k => by unfold scrB; omega⟩ hP) hg hqn]
            have hm : f_X6_mindOf J L (Int32.ofNat g) = Int32.ofNat (ab_mind A g) := by
              have q : J 15 g = Int32.ofNat (ab_mind A g) := (hJ _ _ (by unfold scrB; omega)).trans (hX.2.2.2.2.2.1 g hg)
              unfold f_X6_mindOf
              simp (disch := omega) only [xl_0, xl_1, xl_2, xl_3, xl_4, xl_5, xl_6, xl_7, xl_8, xl_9, xl_10, xl_15, xl_18, xl_24, xl_31, xl_32, xl_36, xl_40, xl_48, xl_63, xl_64, xl_144, xl_250, xl_320, xl_720, xl_721, xl_1000, xl_1023, xl_1024, xv_lt, xv_eq, xv_in, xv_clamp, xv_add, xv_mul, xv_dec, xv_div, xv_mod, xv_m1, xv_m1', xv_and, xv_or, xv_shl, xv_shr, xv_bit0, xv_bit1, Nat.not_lt_zero, hg, if_true, if_false, q]
            rw [hm, xv_mul]; rfl
          · rw [xw_ne2 (by omega)]; exact j1 q (by omega) hqn
        · intro J hJ j0 j1
          refine g_X0_weighPlaces_10 (by decide) ?_
          rw [if_neg (by decide), show Int32.ofNat g + 1 = Int32.ofNat (g + 1) from xv_add g 1]
          refine K J hJ fun h hh p hp => ?_
          by_cases e : h = g
          · rw [e]; exact j1 p (by omega) hp
          · exact j0 h (by omega) p hp
      exact key2 0 (by decide) J hJ j0 (fun q hq => absurd hq (Nat.not_lt_zero _))
    · intro J hJ j0
      refine g_X0_weighPlaces_2 (by decide) ?_
      rw [if_neg (by decide)]
      exact ⟨rfl, J, rfl, hJ, j0⟩
  exact key 0 (by decide) I (xsm_refl _ _) (fun h hh => absurd hh (Nat.not_lt_zero _))
