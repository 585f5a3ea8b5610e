/-! .. sorts at a place, what is known, the likeliest, the odd -/
def aSb (A : xAb) (p : Nat) : Nat → Nat
  | 0 => 0
  | s + 1 => if 0 < aSt A p s then aSb A p s ||| 1 * 2 ^ s else aSb A p s
theorem aSb_bits (A : xAb) (p : Nat) : ∀ i, i ≤ 6 → aSb A p i < 64 ∧ ∀ s, (aSb A p i).testBit s = true ↔ (s < i ∧ 0 < aSt A p s)
  | 0, _ => ⟨show 0 < 64 by decide, fun s => by simp [aSb]⟩
  | i + 1, hi => by
    obtain ⟨h1, h2⟩ := aSb_bits A p i (by omega)
    simp only [aSb]
    by_cases e : 0 < aSt A p i
    · rw [if_pos e]
      refine ⟨or_lt64 h1 (by omega), fun s => ?_⟩
      rw [or_bit, Bool.or_eq_true, h2 s, decide_eq_true_iff]
      constructor
      · rintro (⟨a, b⟩ | rfl)
        · exact ⟨by omega, b⟩
        · exact ⟨by omega, e⟩
      · rintro ⟨a, b⟩
        by_cases c : i = s
        · exact Or.inr c
        · exact Or.inl ⟨by omega, b⟩
    · rw [if_neg e]
      refine ⟨h1, fun s => ?_⟩
      rw [h2 s]
      constructor
      · rintro ⟨a, b⟩; exact ⟨by omega, b⟩
      · rintro ⟨a, b⟩
        refine ⟨?_, b⟩
        by_cases c : s = i
        · subst c; exact absurd b e
        · omega
theorem bits_eq {m m' : Nat} (h : m < 64) (h' : m' < 64) (e : ∀ s, s < 6 → m.testBit s = m'.testBit s) : m = m' := by
  refine Nat.eq_of_testBit_eq fun i => ?_
  by_cases c : i < 6
  · exact e i c
  · rw [Nat.testBit_lt_two_pow (Nat.lt_of_lt_of_le h (show 2 ^ 6 ≤ 2 ^ i from Nat.pow_le_pow_right (by decide) (by omega))), Nat.testBit_lt_two_pow (Nat.lt_of_lt_of_le h' (show 2 ^ 6 ≤ 2 ^ i from Nat.pow_le_pow_right (by decide) (by omega)))]
theorem t_sortsAtX {A : xAb} {I : xI} {L : xL} {z : Bool × Bool × Nat} {p : Nat} (hA : abOK A) (hP : xPos A I) (hp : p < 6) : xCd 2 127 [.ref 37, .int (Int32.ofNat p)] (xS I L z) (qP I L z (Int32.ofNat (aSb A p 6))) := by
  have hl := aP_len hA
  refine c_X7_sortsAt (g_X7_sortsAt_0 (by decide) ?_)
  have key : ∀ s, s ≤ 6 → h_X7_sortsAt_4 1 (qP I L z (Int32.ofNat (aSb A p 6))) (0, 0) I L z (Int32.ofNat p) (Int32.ofNat (aSb A p s)) (Int32.ofNat s) := by
    refine xcount _ 6 ?_ ?_
    · intro s hs K
      refine g_X7_sortsAt_4 (by decide) ?_
      have q := aSt_le A p s
      rw [f_stand hP hp (by omega)]
      simp (disch := omega) only [xl_0, xl_1, xl_2, xl_3, xl_4, xl_5, xl_6, xl_7, xl_8, xl_9, xl_10, xl_15, xl_18, xl_24, xl_31, xl_32, xl_36, xl_40, xl_48, xl_63, xl_64, xl_144, xl_250, xl_320, xl_720, xl_721, xl_1000, xl_1023, xl_1024, xv_lt, xv_eq, xv_in, xv_clamp, xv_add, xv_mul, xv_dec, xv_div, xv_mod, xv_m1, xv_m1', xv_and, xv_or, xv_shl, xv_shr, xv_bit0, xv_bit1, hs, if_true]
      simp only [aSb] at K
      by_cases e : 0 < aSt A p s
      · rw [if_pos e] at K ⊢; exact K
      · rw [if_neg e] at K ⊢; exact K
    · refine g_X7_sortsAt_4 (by decide) ?_
      rw [if_neg (by decide)]
      exact ⟨rfl, rfl⟩
  exact key 0 (by decide)
def aKn (A : xAb) (p : Nat) : Prop := pcn (aSb A p 6) 6 ≤ 1
theorem t_isKnownX {A : xAb} {I : xI} {L : xL} {z : Bool × Bool × Nat} {p : Nat} (hA : abOK A) (hP : xPos A I) (hp : p < 6) : xCd 3 129 [.ref 37, .int (Int32.ofNat p)] (xS I L z) (fun r τ => (∃ v : Int32, r = some (.int v) ∧ (v = 0 ↔ ¬ aKn A p) ∧ (v = 0 ∨ v = 1)) ∧ τ = xS I L z) := by
  refine c_X7_isKnown (g_X7_isKnown_0 (by decide) ?_)
  refine xuse (t_sortsAtX hA hP hp) (by decide) ?_
  rintro _ _ ⟨rfl, rfl⟩
  refine g_X7_isKnown_5 (by decide) ?_
  rw [f_bitCount (aSb_bits A p 6 (by decide)).1]
  have := pcn_le (aSb A p 6) 6
  unfold aKn
  simp (disch := omega) only [xl_0, xl_1, xl_2, xl_3, xl_4, xl_5, xl_6, xl_7, xl_8, xl_9, xl_10, xl_15, xl_18, xl_24, xl_31, xl_32, xl_36, xl_40, xl_48, xl_63, xl_64, xl_144, xl_250, xl_320, xl_720, xl_721, xl_1000, xl_1023, xl_1024, xv_lt, xv_eq, xv_in, xv_clamp, xv_add, xv_mul, xv_dec, xv_div, xv_mod, xv_m1, xv_m1', xv_and, xv_or, xv_shl, xv_shr, xv_bit0, xv_bit1]
  by_cases e : 1 < pcn (aSb A p 6) 6
  · rw [if_pos e]
    exact ⟨⟨_, rfl, ⟨fun _ => by omega, fun _ => rfl⟩, Or.inl rfl⟩, trivial⟩
  · rw [if_neg e]
    exact ⟨⟨_, rfl, ⟨fun x => absurd x (by decide), fun x => by omega⟩, Or.inr rfl⟩, trivial⟩
def aKb (A : xAb) : Nat → Nat
  | 0 => 0
  | p + 1 => if pcn (aSb A p 6) 6 ≤ 1 then aKb A p ||| 1 * 2 ^ p else aKb A p
theorem t_knownX {A : xAb} {I : xI} {L : xL} {z : Bool × Bool × Nat} (hA : abOK A) (hX : xTX I 10 A) (hP : xPos A I) : xCd 4 130 [.ref 37] (xS I L z) (qP I L z (Int32.ofNat (aKb A (ab_n A)))) := by
  have h6 := hA.1.2
  have nn := hX.1.1
  refine c_X7_knownPlaces (g_X7_knownPlaces_0 (by decide) ?_)
  have key : ∀ p, p ≤ ab_n A → h_X7_knownPlaces_4 3 (qP I L z (Int32.ofNat (aKb A (ab_n A)))) (0, 0) I L z (Int32.ofNat (aKb A p)) (Int32.ofNat p) := by
    refine xcount _ (ab_n A) ?_ ?_
    · intro p hp K
      refine g_X7_knownPlaces_4 (by decide) ?_
      rw [nn, if_pos ((xv_lt (by omega) (by omega)).mpr hp)]
      refine xuse (t_isKnownX hA hP (by omega)) (by decide) ?_
      rintro _ _ ⟨⟨v, rfl, v1, _⟩, rfl⟩
      refine g_X7_knownPlaces_20 (by decide) ?_
      have e1 : Int32.ofNat (aKb A p) ||| ((1 : Int32) <<< (Int32.ofNat p &&& 31)) = Int32.ofNat (aKb A p ||| 1 * 2 ^ p) := by
        simp (disch := omega) only [xl_0, xl_1, xl_2, xl_3, xl_4, xl_5, xl_6, xl_7, xl_8, xl_9, xl_10, xl_15, xl_18, xl_24, xl_31, xl_32, xl_36, xl_40, xl_48, xl_63, xl_64, xl_144, xl_250, xl_320, xl_720, xl_721, xl_1000, xl_1023, xl_1024, xv_lt, xv_eq, xv_in, xv_clamp, xv_add, xv_mul, xv_dec, xv_div, xv_mod, xv_m1, xv_m1', xv_and, xv_or, xv_shl, xv_shr, xv_bit0, xv_bit1]
      rw [e1, show Int32.ofNat p + 1 = Int32.ofNat (p + 1) from xv_add p 1]
      simp only [aKb] at K
      by_cases e : pcn (aSb A p 6) 6 ≤ 1
      · rw [if_pos e] at K
        rw [if_neg (fun x => v1.mp x e)]
        exact K
      · rw [if_neg e] at K
        rw [if_pos (v1.mpr e)]
        exact K
    · refine g_X7_knownPlaces_4 (by decide) ?_
      rw [nn, if_neg (fun q => Nat.lt_irrefl _ ((xv_lt (by omega) (by omega)).mp q))]
      exact ⟨rfl, rfl⟩
  exact key 0 (by omega)
def aLk (A : xAb) (p : Nat) : Nat → Nat
  | 0 => 0
  | s + 1 => if aSt A p (aLk A p s) < aSt A p s then s else aLk A p s
theorem aLk_lt (A : xAb) (p : Nat) : ∀ i, i ≤ 6 → aLk A p i < 6
  | 0, _ => show 0 < 6 by decide
  | i + 1, h => by
    have := aLk_lt A p i (by omega)
    simp only [aLk]
    split <;> omega
theorem t_likeliestX {A : xAb} {I : xI} {L : xL} {z : Bool × Bool × Nat} {p : Nat} (hA : abOK A) (hP : xPos A I) (hp : p < 6) : xCd 2 128 [.ref 37, .int (Int32.ofNat p)] (xS I L z) (qP I L z (Int32.ofNat (aLk A p 6))) := by
  have hl := aP_len hA
  refine c_X7_likeliestAt (g_X7_likeliestAt_0 (by decide) ?_)
  have key : ∀ s, s ≤ 6 → h_X7_likeliestAt_4 1 (qP I L z (Int32.ofNat (aLk A p 6))) (0, 0) I L z (Int32.ofNat p) (Int32.ofNat (aLk A p s)) (Int32.ofNat s) := by
    refine xcount _ 6 ?_ ?_
    · intro s hs K
      refine g_X7_likeliestAt_4 (by decide) ?_
      have q := aSt_le A p s
      have q1 := aLk_lt A p s (by omega)
      have q2 := aSt_le A p (aLk A p s)
      rw [f_stand hP hp (by omega), f_stand hP hp (by omega)]
      simp (disch := omega) only [xl_0, xl_1, xl_2, xl_3, xl_4, xl_5, xl_6, xl_7, xl_8, xl_9, xl_10, xl_15, xl_18, xl_24, xl_31, xl_32, xl_36, xl_40, xl_48, xl_63, xl_64, xl_144, xl_250, xl_320, xl_720, xl_721, xl_1000, xl_1023, xl_1024, xv_lt, xv_eq, xv_in, xv_clamp, xv_add, xv_mul, xv_dec, xv_div, xv_mod, xv_m1, xv_m1', xv_and, xv_or, xv_shl, xv_shr, xv_bit0, xv_bit1, hs, if_true]
      simp only [aLk] at K
      by_cases e : aSt A p (aLk A p s) < aSt A p s
      · rw [if_pos e] at K ⊢; exact K
      · rw [if_neg e] at K ⊢; exact K
    · refine g_X7_likeliestAt_4 (by decide) ?_
      rw [if_neg (by decide)]
      exact ⟨rfl, rfl⟩
  have k1 := key 1 (by decide)
  have : aLk A p 1 = 0 := by
    show (if aSt A p 0 < aSt A p 0 then 0 else 0) = 0
    split <;> rfl
  rw [this] at k1
  exact k1
def aOdd (A : xAb) (p : Nat) : Nat := sum6 (fun s => if aC A s = 1 then aSt A p s else 0) 6
theorem t_oddX {A : xAb} {I : xI} {L : xL} {z : Bool × Bool × Nat} {p : Nat} (hA : abOK A) (hX : xTX I 10 A) (hP : xPos A I) (hp : p < 6) : xCd 2 131 [.ref 37, .int (Int32.ofNat p)] (xS I L z) (qP I L z (Int32.ofNat (aOdd A p))) := by
  have h6 := hA.1.2
  refine c_X7_oddAt (g_X7_oddAt_0 (by decide) ?_)
  have key : ∀ s, s ≤ 6 → h_X7_oddAt_4 1 (qP I L z (Int32.ofNat (aOdd A p))) (0, 0) I L z (Int32.ofNat p) (Int32.ofNat (sum6 (fun s => if aC A s = 1 then aSt A p s else 0) s)) (Int32.ofNat s) := by
    refine xcount _ 6 ?_ ?_
    · intro s hs K
      refine g_X7_oddAt_4 (by decide) ?_
      rw [if_pos (show Int32.ofNat s < (6 : Int32) from (xv_lt (b := 6) (by omega) (by decide)).mpr hs)]
      refine xuse (t_howManyPoured hA hX hs) (by decide) ?_
      rintro _ _ ⟨rfl, rfl⟩
      refine g_X7_oddAt_18 (by decide) ?_
      rw [f_stand hP hp (by omega)]
      have q : aC A s ≤ ab_n A := fcnt_le _ _ _
      simp (disch := omega) only [xl_0, xl_1, xl_2, xl_3, xl_4, xl_5, xl_6, xl_7, xl_8, xl_9, xl_10, xl_15, xl_18, xl_24, xl_31, xl_32, xl_36, xl_40, xl_48, xl_63, xl_64, xl_144, xl_250, xl_320, xl_720, xl_721, xl_1000, xl_1023, xl_1024, xv_lt, xv_eq, xv_in, xv_clamp, xv_add, xv_mul, xv_dec, xv_div, xv_mod, xv_m1, xv_m1', xv_and, xv_or, xv_shl, xv_shr, xv_bit0, xv_bit1]
      simp only [sum6] at K
      by_cases e : aC A s = 1
      · rw [if_pos e] at K ⊢; exact K
      · rw [if_neg e] at K ⊢; exact K
    · refine g_X7_oddAt_4 (by decide) ?_
      rw [if_neg (by decide)]
      exact ⟨rfl, rfl⟩
  exact key 0 (by decide)
/-- in how many it is wrong for a guest -/
def aMd (A : xAb) (g p : Nat) : Nat := if ab_want A g = -1 then 0 else (aP A).countP (fun w => !(decide (Int32.ofNat (wd w p) = ab_want A g)))
theorem aMd_le (A : xAb) (g p : Nat) : aMd A g p ≤ (aP A).length := by
  unfold aMd
  split
  · exact Nat.zero_le _
  · exact List.countP_le_length
theorem cp_not {l : List Nat} {f : Nat → Bool} : l.countP (fun w => !(f w)) = l.length - l.countP f := by
  induction l with
  | nil => rfl
  | cons a t ih =>
    have := List.countP_le_length (p := f) (l := t)
    rw [List.countP_cons, List.countP_cons, ih, List.length_cons]
    cases f a <;> simp <;> omega
theorem f_wrong {A : xAb} {I : xI} {L : xL} {g p : Nat} (hA : abOK A) (hX : xTX I 10 A) (hP : xPos A I) (hg : g < 6) (hp : p < ab_n A) : f_X0_wrongWorlds I L (Int32.ofNat g) (Int32.ofNat p) = Int32.ofNat (aMd A g p) := by
  have h6 := hA.1.2
  have hw : f_X6_wantOf I L (Int32.ofNat g) = ab_want A g := by
    have q : I 14 g = ab_want A g := hX.2.2.2.2.1 g hg
    unfold f_X6_wantOf
    simp (disch := omega) only [xl_0, xl_1, xl_2, xl_3, xl_4, xl_5, xl_6, xl_7, xl_8, xl_9, xl_10, xl_15, xl_18, xl_24, xl_31, xl_32, xl_36, xl_40, xl_48, xl_63, xl_64, xl_144, xl_250, xl_320, xl_720, xl_721, xl_1000, xl_1023, xl_1024, xv_lt, xv_eq, xv_in, xv_clamp, xv_add, xv_mul, xv_dec, xv_div, xv_mod, xv_m1, xv_m1', xv_and, xv_or, xv_shl, xv_shr, xv_bit0, xv_bit1, Nat.not_lt_zero, hg, if_true, if_false, q]
  unfold f_X0_wrongWorlds aMd
  rw [hw]
  by_cases e : ab_want A g = -1
  · rw [if_pos e, if_pos e]; rfl
  · rw [if_neg e, if_neg e]
    rcases hA.2.2.2.2.2.2.1 g hg with q | ⟨v, hv, q⟩
    · exact absurd q e
    · rw [q, f_stand hP (by omega) (by omega), hP.1, xv_sub (aSt_le _ _ _), cp_not]
      congr 2
      unfold aSt
      rw [if_pos hp]
      refine List.countP_congr fun w hw => ?_
      have := wd_lt w p
      rw [decide_eq_true_iff, decide_eq_true_iff, xv_eq (by omega) (by omega)]
/-- the first place that isn't known -/
def isFu (A : xAb) (p : Nat) : Prop := p < ab_n A ∧ ¬ aKn A p ∧ ∀ q, q < p → aKn A q
theorem fu_ex {A : xAb} (hA : abOK A) (h : 2 ≤ (aP A).length) : ∃ p, isFu A p := by
  have h6 := hA.1.2
  -- two worlds that are unlike somewhere
  have hne : (aP A).getD 0 0 ≠ (aP A).getD 1 0 := by
    have q := List.pairwise_iff_getElem.mp (aP_nodup hA) 0 1 (by omega) (by omega) (by decide)
    rw [List.getD_eq_getElem?_getD, List.getD_eq_getElem?_getD, List.getElem?_eq_getElem (by omega), List.getElem?_eq_getElem (by omega)]
    exact q
  have ex : ∃ p, p < ab_n A ∧ ¬ aKn A p := by
    refine Classical.byContradiction fun hno => hne ?_
    refine aW_ext hA (aP_mem.mp (gd_mem (by omega))).1 (aP_mem.mp (gd_mem (by omega))).1 fun p hp => ?_
    refine Classical.byContradiction fun c => hno ⟨p, hp, fun k => ?_⟩
    unfold aKn at k
    obtain ⟨b1, b2⟩ := aSb_bits A p 6 (by decide)
    have s0 : (aSb A p 6).testBit (wd ((aP A).getD 0 0) p) = true := (b2 _).mpr ⟨aP_wd hA (by omega) (by omega), by
      unfold aSt; rw [if_pos hp]
      exact List.countP_pos_iff.mpr ⟨_, gd_mem (by omega), decide_eq_true rfl⟩⟩
    have s1 : (aSb A p 6).testBit (wd ((aP A).getD 1 0) p) = true := (b2 _).mpr ⟨aP_wd hA (by omega) (by omega), by
      unfold aSt; rw [if_pos hp]
      exact List.countP_pos_iff.mpr ⟨_, gd_mem (by omega), decide_eq_true rfl⟩⟩
    have u0 := aP_wd hA (show 0 < (aP A).length by omega) (show p < 6 by omega)
    have u1 := aP_wd hA (show 1 < (aP A).length by omega) (show p < 6 by omega)
    generalize wd ((aP A).getD 0 0) p = x at *
    generalize wd ((aP A).getD 1 0) p = y at *
    simp only [pcn] at k
    rcases six u0 with rfl | rfl | rfl | rfl | rfl | rfl <;> rcases six u1 with rfl | rfl | rfl | rfl | rfl | rfl <;> first
      | exact absurd rfl c
      | (rw [s0, s1] at k; simp only [if_true] at k; (repeat' split at k) <;> omega)
  obtain ⟨p, hp, hk⟩ := ex
  have key : ∀ m, m ≤ ab_n A → (∀ q, q < m → aKn A q) ∨ ∃ q, q < m ∧ isFu A q := by
    intro m
    induction m with
    | zero => exact fun _ => Or.inl fun q hq => absurd hq (Nat.not_lt_zero _)
    | succ m ih =>
      intro hm
      rcases ih (by omega) with h | ⟨q, a, b⟩
      · by_cases c : aKn A m
        · refine Or.inl fun q hq => ?_
          by_cases d : q = m
          · rw [d]; exact c
          · exact h q (by omega)
        · exact Or.inr ⟨m, by omega, by omega, c, h⟩
      · exact Or.inr ⟨q, by omega, b⟩
  rcases key (ab_n A) (Nat.le_refl _) with h | ⟨q, _, b⟩
  · exact absurd (h p hp) hk
  · exact ⟨q, b⟩
theorem t_firstUnknownX {A : xAb} {I : xI} {L : xL} {z : Bool × Bool × Nat} {k p : Nat} (hA : abOK A) (hX : xTX I 10 A) (hP : xPos A I) (hf : isFu A p) : xCd 4 76 [.ref 56, .int (Int32.ofNat k)] (xS I L z) (qP I L z (Int32.ofNat (10 * p + k))) := by
  have h6 := hA.1.2
  have nn := hX.1.1
  obtain ⟨f1, f2, f3⟩ := hf
  refine c_X5_firstUnknown (g_X5_firstUnknown_0 (by decide) ?_)
  have key : ∀ q, q ≤ p → h_X5_firstUnknown_2 3 (qP I L z (Int32.ofNat (10 * p + k))) (0, 0) I L z (Int32.ofNat k) (Int32.ofNat q) := by
    refine xcount _ p ?_ ?_
    · intro q hq K
      refine g_X5_firstUnknown_2 (by decide) ?_
      rw [nn, if_pos ((xv_lt (by omega) (by omega)).mpr (by omega))]
      refine xuse (t_isKnownX hA hP (by omega)) (by decide) ?_
      rintro _ _ ⟨⟨v, rfl, v1, _⟩, rfl⟩
      refine g_X5_firstUnknown_21 (by decide) ?_
      rw [if_neg (fun x => v1.mp x (f3 q hq)), show Int32.ofNat q + 1 = Int32.ofNat (q + 1) from xv_add q 1]
      exact K
    · refine g_X5_firstUnknown_2 (by decide) ?_
      rw [nn, if_pos ((xv_lt (by omega) (by omega)).mpr f1)]
      refine xuse (t_isKnownX hA hP (by omega)) (by decide) ?_
      rintro _ _ ⟨⟨v, rfl, v1, _⟩, rfl⟩
      refine g_X5_firstUnknown_21 (by decide) ?_
      rw [if_pos (v1.mpr f2)]
      refine ⟨?_, rfl⟩
      simp (disch := omega) only [xl_0, xl_1, xl_2, xl_3, xl_4, xl_5, xl_6, xl_7, xl_8, xl_9, xl_10, xl_15, xl_18, xl_24, xl_31, xl_32, xl_36, xl_40, xl_48, xl_63, xl_64, xl_144, xl_250, xl_320, xl_720, xl_721, xl_1000, xl_1023, xl_1024, xv_lt, xv_eq, xv_in, xv_clamp, xv_add, xv_mul, xv_dec, xv_div, xv_mod, xv_m1, xv_m1', xv_and, xv_or, xv_shl, xv_shr, xv_bit0, xv_bit1]
  exact key 0 (by omega)
