/-! promise apart -/
def apM (s : Nat) : Nat := pcn s 6 * 64 + s
theorem min_ex {P : Nat → Prop} {m : Nat → Nat} (h : ∃ s, P s) : ∃ s, P s ∧ ∀ s', P s' → m s ≤ m s' := by
  obtain ⟨s, hs⟩ := h
  have key : ∀ N s, P s → m s = N → ∃ s, P s ∧ ∀ s', P s' → m s ≤ m s' := by
    intro N
    induction N using Nat.strongRecOn with
    | _ N ih =>
      intro s hs hN
      by_cases c : ∃ s', P s' ∧ m s' < m s
      · obtain ⟨s', a, b⟩ := c
        exact ih (m s') (by omega) s' a rfl
      · refine ⟨s, hs, fun s' hs' => Nat.le_of_not_lt fun x => c ⟨s', hs', x⟩⟩
  exact key (m s) s hs rfl
def apT (n size set : Nat) : Nat := sum6 (fun s => if pcn s 6 < size then 1 else 0) (2 ^ n) + sum6 (fun s => if pcn s 6 = size then 1 else 0) set
theorem sum6_mono {f : Nat → Nat} : ∀ {a b : Nat}, a ≤ b → sum6 f a ≤ sum6 f b := by
  intro a b h
  induction h with
  | refl => exact Nat.le_refl _
  | step _ ih => exact Nat.le_trans ih (Nat.le_add_right _ _)
theorem sum6_ones : ∀ n, sum6 (fun _ => 1) n = n
  | 0 => rfl
  | n + 1 => by simp only [sum6]; rw [sum6_ones n]
theorem apT_le {n size set : Nat} (h : set ≤ 2 ^ n) : apT n size set ≤ 2 ^ n := by
  unfold apT
  have h1 := sum6_mono (f := fun s => if pcn s 6 = size then 1 else 0) h
  have h2 : sum6 (fun s => if pcn s 6 < size then 1 else 0) (2 ^ n) + sum6 (fun s => if pcn s 6 = size then 1 else 0) (2 ^ n) ≤ sum6 (fun _ => 1) (2 ^ n) := by
    rw [← sum6_add]
    refine sum6_le _ fun i _ => ?_
    split <;> split <;> omega
  rw [sum6_ones] at h2
  omega
theorem apT_next {n size : Nat} : apT n size (2 ^ n) = apT n (size + 1) 0 := by
  unfold apT
  rw [← sum6_add]
  show _ = _ + 0
  rw [Nat.add_zero]
  refine sum6_congr _ fun i _ => ?_
  by_cases a : pcn i 6 < size
  · rw [if_pos a, if_neg (show ¬ pcn i 6 = size by omega), if_pos (show pcn i 6 < size + 1 by omega)]
  · by_cases b : pcn i 6 = size
    · rw [if_neg a, if_pos b, if_pos (show pcn i 6 < size + 1 by omega)]
    · rw [if_neg a, if_neg b, if_neg (show ¬ pcn i 6 < size + 1 by omega)]
theorem told_all {A : xAb} (hA : abOK A) : toldBy A (2 ^ ab_n A - 1) := by
  intro i j hji hi
  refine Classical.byContradiction fun hno => ?_
  have e : (aP A).getD i 0 = (aP A).getD j 0 := by
    refine aW_ext hA (aP_mem.mp (gd_mem hi)).1 (aP_mem.mp (gd_mem (by omega))).1 fun p hp => ?_
    refine Classical.byContradiction fun c => hno ⟨p, hp, ?_, c⟩
    rw [Nat.testBit_two_pow_sub_one]
    exact decide_eq_true hp
  have q := List.pairwise_iff_getElem.mp (aP_nodup hA) j i (by omega) hi hji
  rw [List.getD_eq_getElem?_getD, List.getD_eq_getElem?_getD, List.getElem?_eq_getElem hi, List.getElem?_eq_getElem (show j < (aP A).length by omega)] at e
  exact q e.symm
def isAp (A : xAb) (s : Nat) : Prop := (s < 2 ^ ab_n A ∧ toldBy A s) ∧ ∀ s', (s' < 2 ^ ab_n A ∧ toldBy A s') → apM s ≤ apM s'
theorem ap_ex {A : xAb} (hA : abOK A) : ∃ s, isAp A s := min_ex (P := fun s => s < 2 ^ ab_n A ∧ toldBy A s) (m := apM) ⟨2 ^ ab_n A - 1, by have := Nat.two_pow_pos (ab_n A); omega, told_all hA⟩
theorem t_apartX {A : xAb} {I : xI} {L : xL} {z : Bool × Bool × Nat} {t s : Nat} (hA : abOK A) (hX : xTX I 10 A) (hs : xShf I) (hP : xPos A I) (hT : xTal t I) (ht : t < 900000) (ha : isAp A s) : xCd 3 21 [.ref 43] (xS I L z) (qV scrT I L z (Int32.ofNat s) (fun J => ∃ t', t' ≤ t + 64 ∧ xTal t' J)) := by
  have h6 := hA.1.2
  have hp64 : 2 ^ ab_n A ≤ 64 := Nat.pow_le_pow_right (show 0 < 2 by decide) h6
  obtain ⟨⟨a1, a2⟩, a3⟩ := ha
  have n0 := hX.1.1
  refine c_X1_placesThatTell (g_X1_placesThatTell_0 (by decide) ?_)
  have e1 : ((1 : Int32) <<< ((I 10 0) &&& 31)) = Int32.ofNat (2 ^ ab_n A) := by
    rw [n0, show (1 : Int32) = Int32.ofNat 1 from rfl, show (31 : Int32) = Int32.ofNat 31 from rfl, xv_and, xv_shl (by omega), Nat.one_mul]
  rw [e1]
  have hpl := pcn_le s (ab_n A)
  have hps : pcn s 6 = pcn s (ab_n A) := pcn_top a1 6 h6
  -- a set that isn't the one: it goes on
  have step : ∀ size set (J : xI), set < 2 ^ ab_n A → apM set < apM s ∨ pcn set 6 ≠ size → size * 64 + set ≤ apM s → xsm scrT I J → (∃ t', t' ≤ t + apT (ab_n A) size set ∧ xTal t' J) → (∀ J : xI, xsm scrT I J → (∃ t', t' ≤ t + apT (ab_n A) size (set + 1) ∧ xTal t' J) → h_X1_placesThatTell_25 2 (qV scrT I L z (Int32.ofNat s) (fun J => ∃ t', t' ≤ t + 64 ∧ xTal t' J)) (0, 0) J L z (Int32.ofNat (2 ^ ab_n A)) (Int32.ofNat size) (Int32.ofNat (set + 1))) → h_X1_placesThatTell_25 2 (qV scrT I L z (Int32.ofNat s) (fun J => ∃ t', t' ≤ t + 64 ∧ xTal t' J)) (0, 0) J L z (Int32.ofNat (2 ^ ab_n A)) (Int32.ofNat size) (Int32.ofNat set) := by
    intro size set J hset hm hle hJ hj K
    refine g_X1_placesThatTell_25 (by decide) ?_
    have hps6 := pcn_le s 6
    have am : apM s = pcn s 6 * 64 + s := rfl
    have hb6 := pcn_le set 6
    rw [if_pos ((xv_lt (by omega) (by omega)).mpr hset), f_bitCount (show set < 64 by omega), show Int32.ofNat set + 1 = Int32.ofNat (set + 1) from xv_add set 1]
    obtain ⟨t', t1, t2⟩ := hj
    have hTb := apT_le (n := ab_n A) (size := size) (set := set) (by omega)
    by_cases b : pcn set 6 = size
    · rw [if_pos (by rw [b])]
      have hX' : xTX J 10 A := xTX_sm hJ (fun k hk => by unfold scrT; omega) (fun o a b k => by unfold scrT; omega) hX
      have hs' : xShf J := xShf_sm hJ (fun k => by unfold scrT; omega) hs
      have hP' : xPos A J := xPos_sm hJ ⟨by unfold scrT; omega, fun k => by unfold scrT; omega, fun k => by unfold scrT; omega⟩ hP
      refine xuse (t_isToldBy hA hX' hs' hP' (show set < 64 by omega) t2 (by omega)) (by decide) ?_
      rintro _ _ ⟨v, rfl, hv, J', rfl, k0, k1⟩
      refine g_X1_placesThatTell_43 (by decide) ?_
      have nt : ¬ toldBy A set := fun x => by
        have := a3 set ⟨hset, x⟩
        rcases hm with y | y
        · omega
        · exact y b
      rw [if_pos (hv.mpr nt), show Int32.ofNat set + 1 = Int32.ofNat (set + 1) from xv_add set 1]
      refine K J' (xsm_trans hJ k0) ⟨t' + 1, ?_, k1⟩
      have : apT (ab_n A) size (set + 1) = apT (ab_n A) size set + 1 := by
        unfold apT
        simp only [sum6]
        rw [if_pos b]; omega
      omega
    · rw [if_neg (fun q => b ((xv_eq (by omega) (by omega)).mp q))]
      refine K J hJ ⟨t', ?_, t2⟩
      have : apT (ab_n A) size (set + 1) = apT (ab_n A) size set := by
        unfold apT
        simp only [sum6]
        rw [if_neg b]; omega
      omega
  have am : apM s = pcn s 6 * 64 + s := rfl
  have key : ∀ size, size ≤ pcn s 6 → ∀ J : xI, xsm scrT I J → (∃ t', t' ≤ t + apT (ab_n A) size 0 ∧ xTal t' J) → h_X1_placesThatTell_12 2 (qV scrT I L z (Int32.ofNat s) (fun J => ∃ t', t' ≤ t + 64 ∧ xTal t' J)) (0, 0) J L z (Int32.ofNat (2 ^ ab_n A)) (Int32.ofNat size) := by
    refine xcount _ (pcn s 6) ?_ ?_
    · intro size hsz G J hJ hj
      refine g_X1_placesThatTell_12 (by decide) ?_
      have nn : J 10 0 = Int32.ofNat (ab_n A) := (hJ _ _ (by unfold scrT; omega)).trans n0
      rw [nn, if_neg (fun q => by have := (xv_lt (by omega) (by omega)).mp q; omega)]
      have key2 : ∀ set, set ≤ 2 ^ ab_n A → ∀ J : xI, xsm scrT I J → (∃ t', t' ≤ t + apT (ab_n A) size set ∧ xTal t' J) → h_X1_placesThatTell_25 2 (qV scrT I L z (Int32.ofNat s) (fun J => ∃ t', t' ≤ t + 64 ∧ xTal t' J)) (0, 0) J L z (Int32.ofNat (2 ^ ab_n A)) (Int32.ofNat size) (Int32.ofNat set) := by
        refine xcount _ (2 ^ ab_n A) ?_ ?_
        · intro set hset K J hJ hj
          refine step size set J hset ?_ (by omega) hJ hj K
          by_cases b : pcn set 6 = size
          · left
            show pcn set 6 * 64 + set < _
            omega
          · exact Or.inr b
        · intro J hJ hj
          refine g_X1_placesThatTell_25 (by decide) ?_
          rw [if_neg (fun q => Nat.lt_irrefl _ ((xv_lt (by omega) (by omega)).mp q)), show Int32.ofNat size + 1 = Int32.ofNat (size + 1) from xv_add size 1]
          rw [apT_next] at hj
          exact G J hJ hj
      exact key2 0 (Nat.zero_le _) J hJ hj
    · intro J hJ hj
      refine g_X1_placesThatTell_12 (by decide) ?_
      have nn : J 10 0 = Int32.ofNat (ab_n A) := (hJ _ _ (by unfold scrT; omega)).trans n0
      rw [nn, if_neg (fun q => by have := (xv_lt (by omega) (by omega)).mp q; omega)]
      have key2 : ∀ set, set ≤ s → ∀ J : xI, xsm scrT I J → (∃ t', t' ≤ t + apT (ab_n A) (pcn s 6) set ∧ xTal t' J) → h_X1_placesThatTell_25 2 (qV scrT I L z (Int32.ofNat s) (fun J => ∃ t', t' ≤ t + 64 ∧ xTal t' J)) (0, 0) J L z (Int32.ofNat (2 ^ ab_n A)) (Int32.ofNat (pcn s 6)) (Int32.ofNat set) := by
        refine xcount _ s ?_ ?_
        · intro set hset K J hJ hj
          refine step (pcn s 6) set J (by omega) ?_ (by omega) hJ hj K
          by_cases b : pcn set 6 = pcn s 6
          · left
            show pcn set 6 * 64 + set < _
            omega
          · exact Or.inr b
        · intro J hJ hj
          refine g_X1_placesThatTell_25 (by decide) ?_
          rw [if_pos ((xv_lt (by omega) (by omega)).mpr a1), f_bitCount (show s < 64 by omega), if_pos rfl]
          have hX' : xTX J 10 A := xTX_sm hJ (fun k hk => by unfold scrT; omega) (fun o a b k => by unfold scrT; omega) hX
          have hs' : xShf J := xShf_sm hJ (fun k => by unfold scrT; omega) hs
          have hP' : xPos A J := xPos_sm hJ ⟨by unfold scrT; omega, fun k => by unfold scrT; omega, fun k => by unfold scrT; omega⟩ hP
          obtain ⟨t', t1, t2⟩ := hj
          have hTb := apT_le (n := ab_n A) (size := pcn s 6) (set := s + 1) (by omega)
          have hTs : apT (ab_n A) (pcn s 6) (s + 1) = apT (ab_n A) (pcn s 6) s + 1 := by
            unfold apT
            simp only [sum6]
            rw [if_pos trivial]; omega
          refine xuse (t_isToldBy hA hX' hs' hP' (show s < 64 by omega) t2 (by omega)) (by decide) ?_
          rintro _ _ ⟨v, rfl, hv, J', rfl, k0, k1⟩
          refine g_X1_placesThatTell_43 (by decide) ?_
          rw [if_neg (fun x => hv.mp x a2)]
          exact ⟨rfl, J', rfl, xsm_trans hJ k0, t' + 1, by omega, k1⟩
      exact key2 0 (Nat.zero_le _) J hJ hj
  refine key 0 (Nat.zero_le _) I (xsm_refl _ _) ⟨t, Nat.le_add_right _ _, hT⟩
theorem t_tellsApart {A : xAb} {I : xI} {L : xL} {z : Bool × Bool × Nat} {set : Nat} (hA : abOK A) (hM : xTM I 66 A) (hR : xRef A I) (hset : set < 64) : xCd 2 263 [.ref 66, .int (Int32.ofNat set)] (xS I L z) (fun r τ => (∃ v : Int32, r = some (.int v) ∧ (v = 0 ↔ ¬ toldBy A set)) ∧ τ = xS I L z) := by
  have h6 := hA.1.2
  have hl := aP_len hA
  have nn := hM.1.1
  refine c_X9_tellsApart (g_X9_tellsApart_0 (by decide) ?_)
  have key : ∀ i, i ≤ (aP A).length → (∀ a b, b < a → a < i → ∃ p, p < ab_n A ∧ set.testBit p = true ∧ wd ((aP A).getD a 0) p ≠ wd ((aP A).getD b 0) p) → h_X9_tellsApart_2 1 (fun r τ => (∃ v : Int32, r = some (.int v) ∧ (v = 0 ↔ ¬ toldBy A set)) ∧ τ = xS I L z) (0, 0) I L z (Int32.ofNat set) (Int32.ofNat i) := by
    refine xcount _ (aP A).length ?_ ?_
    · intro i hi G hab
      refine g_X9_tellsApart_2 (by decide) ?_
      rw [hR.2.1, if_pos ((xv_lt (by omega) (by omega)).mpr hi)]
      have i7 : i < 720 := by omega
      have key2 : ∀ j, j ≤ i → (∀ b, b < j → ∃ p, p < ab_n A ∧ set.testBit p = true ∧ wd ((aP A).getD i 0) p ≠ wd ((aP A).getD b 0) p) → h_X9_tellsApart_12 1 (fun r τ => (∃ v : Int32, r = some (.int v) ∧ (v = 0 ↔ ¬ toldBy A set)) ∧ τ = xS I L z) (0, 0) I L z (Int32.ofNat set) (Int32.ofNat i) (Int32.ofNat j) := by
        refine xcount _ i ?_ ?_
        · intro j hj G2 hb
          refine g_X9_tellsApart_12 (by decide) ?_
          rw [if_pos ((xv_lt (by omega) (by omega)).mpr hj)]
          have j7 : j < 720 := by omega
          have hjl : j < (aP A).length := by omega
          have key3 : ∀ p, p ≤ ab_n A → ∀ v, v < 2 → (v = 1 ↔ ∀ q, q < p → set.testBit q = true → wd ((aP A).getD i 0) q = wd ((aP A).getD j 0) q) → h_X9_tellsApart_23 1 (fun r τ => (∃ v : Int32, r = some (.int v) ∧ (v = 0 ↔ ¬ toldBy A set)) ∧ τ = xS I L z) (0, 0) I L z (Int32.ofNat set) (Int32.ofNat i) (Int32.ofNat j) (Int32.ofNat v) (Int32.ofNat p) := by
            refine xcount _ (ab_n A) ?_ ?_
            · intro p hp G3 v hv2 hv
              refine g_X9_tellsApart_23 (by decide) ?_
              obtain ⟨x, y1, y2, y3, y4⟩ := xRef_at hA hR hi hp
              obtain ⟨x', z1, z2, z3, z4⟩ := xRef_at hA hR hjl hp
              have s1 := aP_wd hA hi (show p < 6 by omega)
              have s2 := aP_wd hA hjl (show p < 6 by omega)
              have v1 : v &&& 1 = v := by rw [Nat.and_one_is_mod]; omega
              by_cases b : set.testBit p = true
              · have hb : p_X9_has I L (Int32.ofNat set) (Int32.ofNat p) := (has_iff (by omega) (by omega)).mpr b
                rw [nn, if_pos ((xv_lt (by omega) (by omega)).mpr hp), if_pos hb]
                simp (disch := omega) only [xl_0, xl_1, xl_2, xl_3, xl_4, xl_5, xl_6, xl_7, xl_8, xl_9, xl_10, xl_15, xl_18, xl_24, xl_31, xl_32, xl_36, xl_40, xl_48, xl_63, xl_64, xl_144, xl_250, xl_320, xl_720, xl_721, xl_1000, xl_1023, xl_1024, xv_lt, xv_eq, xv_in, xv_clamp, xv_add, xv_mul, xv_dec, xv_div, xv_mod, xv_m1, xv_m1', xv_and, xv_or, xv_shl, xv_shr, xv_bit0, xv_bit1, i7, j7, y2, y3, y4, z2, z3, z4, v1, Nat.and_zero, if_true]
                by_cases d : wd ((aP A).getD i 0) p = wd ((aP A).getD j 0) p
                · rw [if_pos d]
                  refine G3 v hv2 (hv.trans ⟨fun k q hq hbq => ?_, fun k q hq hbq => k q (by omega) hbq⟩)
                  by_cases c : q = p
                  · rw [c]; exact d
                  · exact k q (by omega) hbq
                · rw [if_neg d]
                  exact G3 0 (by decide) ⟨fun x => absurd x (by decide), fun k => absurd (k p (by omega) b) d⟩
              · have hb : ¬ p_X9_has I L (Int32.ofNat set) (Int32.ofNat p) := fun x => b ((has_iff (by omega) (by omega)).mp x)
                rw [nn, if_pos ((xv_lt (by omega) (by omega)).mpr hp), if_neg hb]
                simp (disch := omega) only [xl_0, xl_1, xl_2, xl_3, xl_4, xl_5, xl_6, xl_7, xl_8, xl_9, xl_10, xl_15, xl_18, xl_24, xl_31, xl_32, xl_36, xl_40, xl_48, xl_63, xl_64, xl_144, xl_250, xl_320, xl_720, xl_721, xl_1000, xl_1023, xl_1024, xv_lt, xv_eq, xv_in, xv_clamp, xv_add, xv_mul, xv_dec, xv_div, xv_mod, xv_m1, xv_m1', xv_and, xv_or, xv_shl, xv_shr, xv_bit0, xv_bit1, v1]
                refine G3 v hv2 (hv.trans ⟨fun k q hq hbq => ?_, fun k q hq hbq => k q (by omega) hbq⟩)
                by_cases c : q = p
                · rw [c] at hbq; exact absurd hbq b
                · exact k q (by omega) hbq
            · intro v hv2 hv
              refine g_X9_tellsApart_23 (by decide) ?_
              rw [nn, if_neg (fun q => Nat.lt_irrefl _ ((xv_lt (by omega) (by omega)).mp q))]
              by_cases d : v = 1
              · subst d
                rw [if_neg (by decide)]
                refine ⟨⟨_, rfl, ⟨fun _ x => ?_, fun _ => rfl⟩⟩, rfl⟩
                obtain ⟨p, p1, p2, p3⟩ := x i j hj hi
                exact p3 (hv.mp rfl p p1 p2)
              · have v0 : v = 0 := by omega
                subst v0
                rw [if_pos (show Int32.ofNat 0 = (0 : Int32) from rfl), show Int32.ofNat j + 1 = Int32.ofNat (j + 1) from xv_add j 1]
                refine G2 fun b hb' => ?_
                by_cases c : b = j
                · rw [c]
                  refine Classical.byContradiction fun hno => d (hv.mpr fun q hq hbq => Classical.byContradiction fun e => hno ⟨q, hq, hbq, e⟩)
                · exact hb b (by omega)
          exact key3 0 (Nat.zero_le _) 1 (by decide) ⟨fun _ q hq => absurd hq (Nat.not_lt_zero _), fun _ => rfl⟩
        · intro hb
          refine g_X9_tellsApart_12 (by decide) ?_
          rw [if_neg (fun q => Nat.lt_irrefl _ ((xv_lt (by omega) (by omega)).mp q)), show Int32.ofNat i + 1 = Int32.ofNat (i + 1) from xv_add i 1]
          refine G fun a b hba ha => ?_
          by_cases c : a = i
          · rw [c]; rw [c] at hba; exact hb b hba
          · exact hab a b hba (by omega)
      exact key2 0 (Nat.zero_le _) (fun b hb => absurd hb (Nat.not_lt_zero _))
    · intro hab
      refine g_X9_tellsApart_2 (by decide) ?_
      rw [hR.2.1, if_neg (fun q => Nat.lt_irrefl _ ((xv_lt (by omega) (by omega)).mp q))]
      exact ⟨⟨_, rfl, ⟨fun x => absurd x (by decide), fun x => absurd (fun i j a b => hab i j a b) x⟩⟩, rfl⟩
  exact key 0 (Nat.zero_le _) (fun a b _ h => absurd h (Nat.not_lt_zero _))
theorem pr_apart : xPq 159 264 [] := by
  intro c A I L z hc h
  have hA := h.1.1
  have h6 := hA.1.2
  have hl := aP_len hA
  by_cases q : (aP A).length = 0
  · refine pr_q h 5 0 ?_ ?_
    · refine c_X8_apart (d := 29) (g_X8_apart_0 (by decide) ?_)
      refine u_refresh h (by decide) ?_
      intro J t hJ hF hX hs ha t1 t2
      refine g_X8_apart_7 (by decide) ?_
      rw [hF.2.2.2.1, q, if_pos (show Int32.ofNat 0 = (0 : Int32) from rfl)]
      exact oX_no2 (xsm_mono hJ scrW_X) (xCache_of hF) t2 (by omega) (by decide) (by decide)
    · intro J hJ hM
      refine c_X9_apart (d := 29) (g_X9_apart_0 (by decide) ?_)
      refine u_findP hA hM (by decide) ?_
      intro K hK hR hM'
      refine g_X9_apart_4 (by decide) ?_
      rw [hR.2.1, q, if_pos (show Int32.ofNat 0 = (0 : Int32) from rfl)]
      exact oM_no (xsm_mono hK scrF_M) (by decide) (by decide)
  · have q0 : ¬ Int32.ofNat (aP A).length = (0 : Int32) := fun x => q ((xv_eq (b := 0) (by omega) (by decide)).mp x)
    obtain ⟨s, hs⟩ := ap_ex hA
    refine pr_q h 0 (Int32.ofNat s) ?_ ?_
    · refine c_X8_apart (d := 29) (g_X8_apart_0 (by decide) ?_)
      refine u_refresh h (by decide) ?_
      intro J t hJ hF hX hsh ha t1 t2
      refine g_X8_apart_7 (by decide) ?_
      rw [hF.2.2.2.1, if_neg q0]
      refine xuse (t_apartX hA hX hsh hF.2.2.2 t2 (by omega) hs) (by decide) ?_
      rintro _ _ ⟨rfl, K, rfl, k0, t', k1, k2⟩
      exact g_X8_apart_31 (by decide) (oX_ok (xsm_trans (xsm_mono hJ scrW_X) (xsm_mono k0 (fun o k e => by unfold scrT at e; unfold scrX; omega))) (xCache_of (xFresh_sm k0 (fun o k e => by unfold scrT at e; unfold noC; omega) hF)) k2 (by omega))
    · intro J hJ hM
      refine c_X9_apart (d := 29) (g_X9_apart_0 (by decide) ?_)
      refine u_findP hA hM (by decide) ?_
      intro K hK hR hM'
      refine g_X9_apart_4 (by decide) ?_
      rw [hR.2.1, if_neg q0]
      have nn := hM'.1.1
      have hp64 : 2 ^ ab_n A ≤ 64 := Nat.pow_le_pow_right (show 0 < 2 by decide) h6
      obtain ⟨⟨a1, a2⟩, a3⟩ := hs
      have hps : pcn s 6 = pcn s (ab_n A) := pcn_top a1 6 h6
      have hpl := pcn_le s (ab_n A)
      have am : apM s = pcn s 6 * 64 + s := rfl
      have e1 : ((1 : Int32) <<< ((K 66 9) &&& 31)) = Int32.ofNat (2 ^ ab_n A) := by
        rw [nn, show (1 : Int32) = Int32.ofNat 1 from rfl, show (31 : Int32) = Int32.ofNat 31 from rfl, xv_and, xv_shl (by omega), Nat.one_mul]
      have step : ∀ size set, set < 2 ^ ab_n A → apM set < apM s ∨ pcn set 6 ≠ size → h_X9_apart_30 29 (oM J L z 0 (Int32.ofNat s)) (0, 0) K L z (Int32.ofNat size) (Int32.ofNat (set + 1)) → size ≤ 6 → h_X9_apart_30 29 (oM J L z 0 (Int32.ofNat s)) (0, 0) K L z (Int32.ofNat size) (Int32.ofNat set) := by
        intro size set hset hm G hsz
        refine g_X9_apart_30 (by decide) ?_
        have hb6 := pcn_le set 6
        rw [e1, if_pos ((xv_lt (by omega) (by omega)).mpr hset)]
        refine xuse (t_bits (n := 6) (by decide) (show set < 2 ^ 6 by omega)) (by decide) ?_
        rintro _ _ ⟨rfl, rfl⟩
        refine g_X9_apart_44 (by decide) ?_
        rw [show Int32.ofNat set + 1 = Int32.ofNat (set + 1) from xv_add set 1]
        by_cases b : pcn set 6 = size
        · rw [if_pos (by rw [b])]
          refine xuse (t_tellsApart hA hM' hR (show set < 64 by omega)) (by decide) ?_
          rintro _ _ ⟨⟨v, rfl, hv⟩, rfl⟩
          refine g_X9_apart_53 (by decide) ?_
          have nt : ¬ toldBy A set := fun x => by
            have := a3 set ⟨hset, x⟩
            rcases hm with y | y
            · omega
            · exact y b
          rw [if_pos (hv.mpr nt), show Int32.ofNat set + 1 = Int32.ofNat (set + 1) from xv_add set 1]
          exact G
        · rw [if_neg (fun q => b ((xv_eq (by omega) (by omega)).mp q))]
          exact G
      have key : ∀ size, size ≤ pcn s 6 → h_X9_apart_20 29 (oM J L z 0 (Int32.ofNat s)) (0, 0) K L z (Int32.ofNat size) := by
        refine xcount _ (pcn s 6) ?_ ?_
        · intro size hsz G
          refine g_X9_apart_20 (by decide) ?_
          rw [nn, if_neg (fun q => by have := (xv_lt (by omega) (by omega)).mp q; omega)]
          have key2 : ∀ set, set ≤ 2 ^ ab_n A → h_X9_apart_30 29 (oM J L z 0 (Int32.ofNat s)) (0, 0) K L z (Int32.ofNat size) (Int32.ofNat set) := by
            refine xcount _ (2 ^ ab_n A) ?_ ?_
            · intro set hset G2
              refine step size set hset ?_ G2 (by omega)
              by_cases b : pcn set 6 = size
              · left
                show pcn set 6 * 64 + set < _
                omega
              · exact Or.inr b
            · refine g_X9_apart_30 (by decide) ?_
              rw [e1, if_neg (fun q => Nat.lt_irrefl _ ((xv_lt (by omega) (by omega)).mp q)), show Int32.ofNat size + 1 = Int32.ofNat (size + 1) from xv_add size 1]
              exact G
          exact key2 0 (Nat.zero_le _)
        · refine g_X9_apart_20 (by decide) ?_
          rw [nn, if_neg (fun q => by have := (xv_lt (by omega) (by omega)).mp q; omega)]
          have key2 : ∀ set, set ≤ s → h_X9_apart_30 29 (oM J L z 0 (Int32.ofNat s)) (0, 0) K L z (Int32.ofNat (pcn s 6)) (Int32.ofNat set) := by
            refine xcount _ s ?_ ?_
            · intro set hset G2
              refine step (pcn s 6) set (by omega) ?_ G2 (by omega)
              by_cases b : pcn set 6 = pcn s 6
              · left
                show pcn set 6 * 64 + set < _
                omega
              · exact Or.inr b
            · refine g_X9_apart_30 (by decide) ?_
              rw [e1, if_pos ((xv_lt (by omega) (by omega)).mpr a1)]
              refine xuse (t_bits (n := 6) (by decide) (show s < 2 ^ 6 by omega)) (by decide) ?_
              rintro _ _ ⟨rfl, rfl⟩
              refine g_X9_apart_44 (by decide) ?_
              rw [if_pos rfl]
              refine xuse (t_tellsApart hA hM' hR (show s < 64 by omega)) (by decide) ?_
              rintro _ _ ⟨⟨v, rfl, hv⟩, rfl⟩
              refine g_X9_apart_53 (by decide) ?_
              rw [if_neg (fun x => hv.mp x a2)]
              exact oM_ok (xsm_mono hK scrF_M)
          exact key2 0 (Nat.zero_le _)
      exact key 0 (Nat.zero_le _)
