theorem xv_neg_ofNat {a b c : Nat} (h : b ≤ a + c) : Int32.ofNat a - Int32.ofNat b + Int32.ofNat c = Int32.ofNat (a + c - b) := by
  rw [← xv_sub h, ← xv_add]
  grind
theorem f_rot {A : xAb} {I : xI} {L : xL} {p k : Nat} (hA : abOK A) (hn : I 10 0 = Int32.ofNat (ab_n A)) (hp : ∀ k, k < 6 → I 11 k = Int32.ofNat (ab_pour A k)) (h1 : p < ab_n A) (h2 : k < ab_n A) : f_X6_pouredAndTurned I L (Int32.ofNat p) (Int32.ofNat k) = Int32.ofNat (aRot A k p) := by
  have h6 := hA.1.2
  unfold f_X6_pouredAndTurned aRot
  by_cases e : p < k
  · rw [if_pos ((xv_lt (by omega) (by omega)).mpr e), hn, xv_neg_ofNat (by omega), if_pos e]
    have q : p + ab_n A - k < 6 := by omega
    simp (disch := omega) only [xl_0, xl_1, xl_2, xl_3, xl_4, xl_5, xl_6, xl_7, xl_8, xl_9, xl_10, xl_15, xl_18, xl_24, xl_31, xl_32, xl_36, xl_40, xl_48, xl_63, xl_64, xl_144, xl_250, xl_320, xl_720, xl_721, xl_1000, xl_1023, xl_1024, xv_lt, xv_eq, xv_in, xv_clamp, xv_add, xv_mul, xv_dec, xv_div, xv_mod, xv_m1, xv_m1', xv_and, xv_or, xv_shl, xv_shr, xv_bit0, xv_bit1, Nat.not_lt_zero, q, if_true, if_false, hp _ q]
  · rw [if_neg (fun q => e ((xv_lt (by omega) (by omega)).mp q)), xv_sub (by omega), if_neg e]
    have q : p - k < 6 := by omega
    simp (disch := omega) only [xl_0, xl_1, xl_2, xl_3, xl_4, xl_5, xl_6, xl_7, xl_8, xl_9, xl_10, xl_15, xl_18, xl_24, xl_31, xl_32, xl_36, xl_40, xl_48, xl_63, xl_64, xl_144, xl_250, xl_320, xl_720, xl_721, xl_1000, xl_1023, xl_1024, xv_lt, xv_eq, xv_in, xv_clamp, xv_add, xv_mul, xv_dec, xv_div, xv_mod, xv_m1, xv_m1', xv_and, xv_or, xv_shl, xv_shr, xv_bit0, xv_bit1, Nat.not_lt_zero, q, if_true, if_false, hp _ q]
theorem t_findTurned {A : xAb} {I : xI} {L : xL} {z : Bool × Bool × Nat} {m : Nat} (hA : abOK A) (hX : xTX I 10 A) (hs : xShf I) (hm : m ≤ ab_n A) (h0 : I 37 0 = Int32.ofNat 0) : xCd 2 117 [.ref 37, .int (Int32.ofNat m)] (xS I L z) (fun r τ => r = none ∧ ∃ J, τ = xS J L z ∧ xsm scrA I J ∧ J 37 0 = Int32.ofNat (aTurn A m).length ∧ xLst J 38 (aTurn A m)) := by
  refine c_X7_findTurned (g_X7_findTurned_0 (by decide) ?_)
  have h2 := hA.1.1
  have h6 := hA.1.2
  have key : ∀ k, k ≤ m → ∀ J : xI, xsm scrA I J → J 37 0 = Int32.ofNat (aTurn A k).length → xLst J 38 (aTurn A k) → h_X7_findTurned_2 1 (fun r τ => r = none ∧ ∃ J, τ = xS J L z ∧ xsm scrA I J ∧ J 37 0 = Int32.ofNat (aTurn A m).length ∧ xLst J 38 (aTurn A m)) (0, 0) J L z (Int32.ofNat m) (Int32.ofNat k) := by
    refine xcount _ m ?_ ?_
    · intro k hk K J hJ j0 j1
      refine g_X7_findTurned_2 (by decide) ?_
      rw [if_pos ((xv_lt (by omega) (by omega)).mpr hk)]
      have key9 : ∀ p, p ≤ ab_n A → ∀ J : xI, xsm scrA I J → J 37 0 = Int32.ofNat (aTurn A k).length → xLst J 38 (aTurn A k) → (∀ q, q < p → J 41 q = Int32.ofNat (aRot A k q)) → h_X7_findTurned_9 1 (fun r τ => r = none ∧ ∃ J, τ = xS J L z ∧ xsm scrA I J ∧ J 37 0 = Int32.ofNat (aTurn A m).length ∧ xLst J 38 (aTurn A m)) (0, 0) J L z (Int32.ofNat m) (Int32.ofNat k) (Int32.ofNat p) := by
        refine xcount _ (ab_n A) ?_ ?_
        · intro p hp K' J hJ j0 j1 j2
          have hX' := xTX_A hJ hX
          refine g_X7_findTurned_9 (by decide) ?_
          have p6 : p < 6 := by omega
          have hn := hX'.1.1
          rw [f_rot hA hn hX'.2.1 hp (by omega)]
          simp (disch := omega) only [xl_0, xl_1, xl_2, xl_3, xl_4, xl_5, xl_6, xl_7, xl_8, xl_9, xl_10, xl_15, xl_18, xl_24, xl_31, xl_32, xl_36, xl_40, xl_48, xl_63, xl_64, xl_144, xl_250, xl_320, xl_720, xl_721, xl_1000, xl_1023, xl_1024, xv_lt, xv_eq, xv_in, xv_clamp, xv_add, xv_mul, xv_dec, xv_div, xv_mod, xv_m1, xv_m1', xv_and, xv_or, xv_shl, xv_shr, xv_bit0, xv_bit1, hn, hp, p6, if_true]
          refine K' _ (xsm_xw (Or.inr (Or.inr rfl)) hJ) (by rw [xw_ne1 (by decide)]; exact j0) (fun i hi => by rw [xw_ne1 (by decide)]; exact j1 i hi) ?_
          intro q hq
          by_cases e : q = p
          · rw [e, xw_eq]
          · rw [xw_ne2 e]; exact j2 q (by omega)
        · intro J hJ j0 j1 j2
          have hX' := xTX_A hJ hX
          have hn := hX'.1.1
          refine g_X7_findTurned_9 (by decide) ?_
          rw [hn, if_neg (fun q => Nat.lt_irrefl _ ((xv_lt (by omega) (by omega)).mp q))]
          have hr : ∀ i, i < ab_n A → aRot A k i < 6 := fun i hi => by
            unfold aRot
            by_cases e : i < k
            · rw [if_pos e]; exact hA.2.2.1 _ (by omega)
            · rw [if_neg e]; exact hA.2.2.1 _ (by omega)
          refine xuse (t_worldIn (a0 := 41) (f := aRot A k) rfl rfl rfl (xShf_sm hJ (fun k => by unfold scrA; omega) hs) h6 j2 (fun p hp => by have := hr p hp; omega)) (by decide) ?_
          rintro _ _ ⟨rfl, rfl⟩
          refine g_X7_findTurned_64 (by decide) ?_
          have hl := aTurn_len (A := A) k
          have hw : wc (aRot A k) (ab_n A) < 262144 := wc_lt h6 (fun p hp => by have := hr p hp; omega)
          have hb : ∀ v, v ∈ aTurn A k → v < 262144 := fun v hv => by
            obtain ⟨f, a, rfl, _⟩ := aTurn_mem hA k (by omega) hv
            exact wc_lt h6 (fun i hi => by have := a i hi; omega)
          refine xuse (t_isWorld j0 j1 (by omega) hw hb) (by decide) ?_
          rintro _ _ ⟨rfl, rfl⟩
          refine g_X7_findTurned_70 (by decide) ?_
          by_cases e : wc (aRot A k) (ab_n A) ∈ aTurn A k
          · rw [if_pos e, if_neg (by decide)]
            refine g_X7_findTurned_78 (by decide) ?_
            rw [show Int32.ofNat k + 1 = Int32.ofNat (k + 1) from xv_add k 1]
            have es : aTurn A (k + 1) = aTurn A k := insW_same (aTurn_srt k) e
            exact K J hJ (by rw [es]; exact j0) (by rw [es]; exact j1)
          · rw [if_neg e, if_pos rfl]
            refine xuse (t_insertWorld j0 j1 (by omega) hw hb (aTurn_srt k) e) (by decide) ?_
            rintro _ _ ⟨rfl, J', rfl, q1, q2, q3⟩
            refine g_X7_findTurned_78 (by decide) ?_
            rw [show Int32.ofNat k + 1 = Int32.ofNat (k + 1) from xv_add k 1]
            exact K J' (xsm_trans hJ (xsm_mono q1 (fun o j e => by unfold scrA; omega))) q2 q3
      exact key9 0 (Nat.zero_le _) J hJ j0 j1 (fun q hq => absurd hq (Nat.not_lt_zero _))
    · intro J hJ j0 j1
      refine g_X7_findTurned_2 (by decide) ?_
      rw [if_neg (fun q => Nat.lt_irrefl _ ((xv_lt (by omega) (by omega)).mp q))]
      exact ⟨rfl, J, rfl, hJ, j0, j1⟩
  exact key 0 (Nat.zero_le _) I (xsm_refl _ _) h0 (fun i hi => absurd hi (by simp [aTurn]))
/-- bits that say which sorts have a property -/
def xBits (m : Nat) (P : Nat → Prop) : Prop := m < 64 ∧ ∀ s, s < 6 → (m.testBit s = true ↔ P s)
theorem or_bit {m s t : Nat} : (m ||| 1 * 2 ^ s).testBit t = (m.testBit t || decide (s = t)) := by
  rw [Nat.one_mul, Nat.testBit_or, Nat.testBit_two_pow]
theorem or_lt64 {m s : Nat} (h : m < 64) (hs : s < 6) : m ||| 1 * 2 ^ s < 64 := by
  rw [Nat.one_mul]
  exact Nat.or_lt_two_pow (n := 6) h (Nat.pow_lt_pow_of_lt (by decide) hs)
theorem t_sortsWithSign {A : xAb} {I : xI} {L : xL} {z : Bool × Bool × Nat} {i : Nat} (hA : abOK A) (hX : xTX I 10 A) (hi : i < (ab_sign A).length) : xCd 1 102 [.ref 10, .int (Int32.ofNat i)] (xS I L z) (fun r τ => (∃ m, xBits m (fun s => aNum A ((ab_sign A).getD i 0 / 10 % 4) s = (ab_sign A).getD i 0 % 10) ∧ r = some (.int (Int32.ofNat m))) ∧ τ = xS I L z) := by
  have hl := hA.2.2.2.2.2.2.2.2.1
  have hv : I 16 i = Int32.ofNat ((ab_sign A).getD i 0) := hX.2.2.2.2.2.2.1 i hi
  have hg := hl.2.1 _ (gd_mem hi)
  have hmk := hX.2.2.2.1
  have hmo := hA.2.2.2.2.2.1
  have h6 := hA.1.2
  generalize (ab_sign A).getD i 0 = s at *
  have hlt : s < 240 := by omega
  have h24 : i < 24 := by omega
  refine c_X6_sortsWithSign (g_X6_sortsWithSign_0 (Nat.zero_le _) ?_)
  simp (disch := omega) only [xl_0, xl_1, xl_2, xl_3, xl_4, xl_5, xl_6, xl_7, xl_8, xl_9, xl_10, xl_15, xl_18, xl_24, xl_31, xl_32, xl_36, xl_40, xl_48, xl_63, xl_64, xl_144, xl_250, xl_320, xl_720, xl_721, xl_1000, xl_1023, xl_1024, xv_lt, xv_eq, xv_in, xv_clamp, xv_add, xv_mul, xv_dec, xv_div, xv_mod, xv_m1, xv_m1', xv_and, xv_or, xv_shl, xv_shr, xv_bit0, xv_bit1, Nat.not_lt_zero, h24, if_true, if_false, hv]
  by_cases e : s / 10 % 4 = 3
  · have h3 := hg.2 e
    rw [if_pos e]
    refine ⟨⟨1 * 2 ^ (s % 10), ⟨?_, ?_⟩, rfl⟩, trivial⟩
    · have := or_lt64 (m := 0) (by decide) h3
      rw [Nat.zero_or] at this; exact this
    · intro t ht
      have := or_bit (m := 0) (s := s % 10) (t := t)
      rw [Nat.zero_or] at this
      rw [this, Nat.zero_testBit, Bool.false_or, decide_eq_true_iff]
      show s % 10 = t ↔ (if s / 10 % 4 = 3 then t else ab_mark A t (s / 10 % 4)) = s % 10
      rw [if_pos e]
      exact eq_comm
  · rw [if_neg e]
    have key : ∀ t, t ≤ 6 → ∀ m, m < 64 → (∀ u, u < t → (m.testBit u = true ↔ aNum A (s / 10 % 4) u = s % 10)) → (∀ u, t ≤ u → m.testBit u = false) → h_X6_sortsWithSign_53 0 (fun r τ => (∃ m, xBits m (fun u => aNum A (s / 10 % 4) u = s % 10) ∧ r = some (.int (Int32.ofNat m))) ∧ τ = xS I L z) (0, 0) I L z (Int32.ofNat i) (Int32.ofNat s) (Int32.ofNat (s / 10 % 4)) (Int32.ofNat (s % 10)) (Int32.ofNat m) (Int32.ofNat (t * 3 + s / 10 % 4)) := by
      refine xcount _ 6 ?_ ?_
      · intro t ht k m hm hb1 hb2
        refine g_X6_sortsWithSign_53 (Nat.zero_le _) ?_
        have hk : s / 10 % 4 < 3 := by omega
        have q1 : t * 3 + s / 10 % 4 < 18 := by omega
        have q2 := hmk t ht _ hk
        have q3 := hmo t ht _ hk
        have q4 : (t * 3 + s / 10 % 4) / 3 = t := by omega
        simp (disch := omega) only [xl_0, xl_1, xl_2, xl_3, xl_4, xl_5, xl_6, xl_7, xl_8, xl_9, xl_10, xl_15, xl_18, xl_24, xl_31, xl_32, xl_36, xl_40, xl_48, xl_63, xl_64, xl_144, xl_250, xl_320, xl_720, xl_721, xl_1000, xl_1023, xl_1024, xv_lt, xv_eq, xv_in, xv_clamp, xv_add, xv_mul, xv_dec, xv_div, xv_mod, xv_m1, xv_m1', xv_and, xv_or, xv_shl, xv_shr, xv_bit0, xv_bit1, q1, if_true, q2, q4]
        have e5 : t * 3 + s / 10 % 4 + 3 = (t + 1) * 3 + s / 10 % 4 := by omega
        have en : aNum A (s / 10 % 4) t = ab_mark A t (s / 10 % 4) := by unfold aNum; rw [if_neg e]
        rw [e5]
        by_cases c : ab_mark A t (s / 10 % 4) = s % 10
        · rw [if_pos c]
          refine k _ (or_lt64 hm ht) ?_ ?_
          · intro u hu
            rw [or_bit]
            by_cases eu : t = u
            · subst eu
              rw [decide_eq_true rfl, Bool.or_true]
              exact ⟨fun _ => by rw [en]; exact c, fun _ => rfl⟩
            · rw [decide_eq_false eu, Bool.or_false]; exact hb1 u (by omega)
          · intro u hu
            rw [or_bit, hb2 u (by omega), decide_eq_false (by omega)]; rfl
        · rw [if_neg c]
          refine k _ hm ?_ (fun u hu => hb2 u (by omega))
          intro u hu
          by_cases eu : u = t
          · subst eu
            rw [hb2 u (Nat.le_refl _), en]
            exact ⟨fun x => absurd x (by decide), fun x => absurd x c⟩
          · exact hb1 u (by omega)
      · intro m hm hb1 hb2
        refine g_X6_sortsWithSign_53 (Nat.zero_le _) ?_
        have q1 : ¬ 6 * 3 + s / 10 % 4 < 18 := by omega
        simp (disch := omega) only [xl_0, xl_1, xl_2, xl_3, xl_4, xl_5, xl_6, xl_7, xl_8, xl_9, xl_10, xl_15, xl_18, xl_24, xl_31, xl_32, xl_36, xl_40, xl_48, xl_63, xl_64, xl_144, xl_250, xl_320, xl_720, xl_721, xl_1000, xl_1023, xl_1024, xv_lt, xv_eq, xv_in, xv_clamp, xv_add, xv_mul, xv_dec, xv_div, xv_mod, xv_m1, xv_m1', xv_and, xv_or, xv_shl, xv_shr, xv_bit0, xv_bit1, q1, if_false]
        exact ⟨⟨m, ⟨hm, hb1⟩, rfl⟩, trivial⟩
    have q := key 0 (by omega) 0 (by decide) (fun u hu => absurd hu (Nat.not_lt_zero _)) (fun u _ => Nat.zero_testBit u)
    rw [show 0 * 3 + s / 10 % 4 = s / 10 % 4 from by omega] at q
    exact q
theorem wd_fold (w p : Nat) : w >>> (15 - 3 * p) &&& 7 = wd w p := rfl
/-- whether a world has all signs -/
theorem t_isAllowed {A : xAb} {I : xI} {L : xL} {z : Bool × Bool × Nat} {w : Nat} {al : Nat → Nat} (hA : abOK A) (hX : xTX I 10 A) (hs : xShf I) (hw : w ∈ aW A) (hal : ∀ p, p < 6 → I 42 p = Int32.ofNat (al p) ∧ xBits (al p) (fun s => ∀ j, j < (ab_sign A).length → (ab_sign A).getD j 0 / 40 = p → aNum A ((ab_sign A).getD j 0 / 10 % 4) s = (ab_sign A).getD j 0 % 10)) : xCd 1 120 [.ref 37, .int (Int32.ofNat w)] (xS I L z) (fun r τ => r = some (.int (if aHas A w = true then 1 else 0)) ∧ τ = xS I L z) := by
  refine c_X7_isAllowed (g_X7_isAllowed_0 (Nat.zero_le _) ?_)
  have h6 := hA.1.2
  have hn := hX.1.1
  have hlt := aW_lt hA hw
  have hiff : aHas A w = true ↔ ∀ p, p < ab_n A → (al p).testBit (wd w p) = true := by
    unfold aHas
    rw [List.all_eq_true]
    constructor
    · intro h p hp
      refine ((hal p (by omega)).2.2 _ (aW_wd hA hw (by omega)).1).mpr fun j hj hjp => ?_
      have := of_decide_eq_true (h _ (gd_mem hj))
      rw [hjp] at this
      exact this
    · intro h s hsm
      obtain ⟨j, hj, e⟩ := mem_gd hsm
      have hp := (hA.2.2.2.2.2.2.2.2.1.2.1 s hsm).1
      have q := ((hal (s / 40) (by omega)).2.2 _ (aW_wd hA hw (by omega)).1).mp (h _ hp) j hj (by rw [e])
      rw [e] at q
      exact decide_eq_true q
  have key : ∀ p, p ≤ ab_n A → (∀ q, q < p → (al q).testBit (wd w q) = true) → h_X7_isAllowed_2 0 (fun r τ => r = some (.int (if aHas A w = true then 1 else 0)) ∧ τ = xS I L z) (0, 0) I L z (Int32.ofNat w) (Int32.ofNat p) := by
    refine xcount _ (ab_n A) ?_ ?_
    · intro p hp k hq
      refine g_X7_isAllowed_2 (Nat.zero_le _) ?_
      have p6 : p < 6 := by omega
      have a1 := (hal p p6).1
      have a2 := (hal p p6).2.1
      have a3 := wd_lt w p
      simp (disch := omega) only [xl_0, xl_1, xl_2, xl_3, xl_4, xl_5, xl_6, xl_7, xl_8, xl_9, xl_10, xl_15, xl_18, xl_24, xl_31, xl_32, xl_36, xl_40, xl_48, xl_63, xl_64, xl_144, xl_250, xl_320, xl_720, xl_721, xl_1000, xl_1023, xl_1024, xv_lt, xv_eq, xv_in, xv_clamp, xv_add, xv_mul, xv_dec, xv_div, xv_mod, xv_m1, xv_m1', xv_and, xv_or, xv_shl, xv_shr, xv_bit0, xv_bit1, hn, hp, p6, if_true, hs p p6, a1, wd_fold]
      by_cases c : (al p).testBit (wd w p) = true
      · rw [if_neg (by rw [c]; decide)]
        refine k fun q hq' => ?_
        by_cases e : q = p
        · rw [e]; exact c
        · exact hq q (by omega)
      · rw [if_pos (by cases e : (al p).testBit (wd w p) with | true => exact absurd e c | false => rfl)]
        rw [if_neg (fun x => c (hiff.mp x p hp))]
        exact ⟨rfl, trivial⟩
    · intro hq
      refine g_X7_isAllowed_2 (Nat.zero_le _) ?_
      simp (disch := omega) only [xl_0, xl_1, xl_2, xl_3, xl_4, xl_5, xl_6, xl_7, xl_8, xl_9, xl_10, xl_15, xl_18, xl_24, xl_31, xl_32, xl_36, xl_40, xl_48, xl_63, xl_64, xl_144, xl_250, xl_320, xl_720, xl_721, xl_1000, xl_1023, xl_1024, xv_lt, xv_eq, xv_in, xv_clamp, xv_add, xv_mul, xv_dec, xv_div, xv_mod, xv_m1, xv_m1', xv_and, xv_or, xv_shl, xv_shr, xv_bit0, xv_bit1, hn, Nat.lt_irrefl, if_false]
      rw [if_pos (hiff.mpr hq)]
      exact ⟨rfl, trivial⟩
  exact key 0 (Nat.zero_le _) (fun q hq => absurd hq (Nat.not_lt_zero _))
