/-! fewest, the reference's side -/
def aLb (A : xAb) (p k i : Nat) : Nat := aNum A k (wd ((aP A).getD i 0) p)
def qsM (A : xAb) (ks : Nat) : (Nat → Nat) → Prop := fun lab => ∃ p k, p < ab_n A ∧ k < 4 ∧ ks.testBit k = true ∧ lab = aLb A p k
def mS (x : Nat) : Nat → Prop := fun i => x.testBit i = true
theorem mS_lt {x m : Nat} (h : x < 2 ^ m) {i : Nat} (hi : mS x i) : i < m := by
  refine Nat.lt_of_not_le fun q => ?_
  have : x.testBit i = false := Nat.testBit_lt_two_pow (Nat.lt_of_lt_of_le h (Nat.pow_le_pow_right (by decide) q))
  rw [mS, this] at hi
  exact absurd hi (by decide)
theorem aLb_lt {A : xAb} (hA : abOK A) {p k i : Nat} (hp : p < ab_n A) (hk : k < 4) (hi : i < (aP A).length) : aLb A p k i < 10 := aNum_lt hA (aP_wd hA hi (by have := hA.1.2; omega)) hk
theorem t_withNumber {A : xAb} {I : xI} {L : xL} {z : Bool × Bool × Nat} {x p k v : Nat} (hA : abOK A) (hM : xTM I 66 A) (hR : xRef A I) (h24 : (aP A).length ≤ 24) (hx : x < 2 ^ (aP A).length) (hp : p < ab_n A) (hk : k < 4) (hv : v < 10) : xCd 3 257 [.ref 66, .int (Int32.ofNat x), .int (Int32.ofNat p), .int (Int32.ofNat k), .int (Int32.ofNat v)] (xS I L z) (fun r τ => (∃ y, y < 2 ^ (aP A).length ∧ (∀ i, mS y i ↔ (mS x i ∧ aLb A p k i = v)) ∧ r = some (.int (Int32.ofNat y))) ∧ τ = xS I L z) := by
  have h6 := hA.1.2
  have h24' : 2 ^ (aP A).length ≤ 16777216 := Nat.pow_le_pow_right (show 0 < 2 by decide) h24
  refine c_X9_withNumber (g_X9_withNumber_0 (by decide) ?_)
  have key : ∀ i, i ≤ (aP A).length → ∀ y, y < 2 ^ (aP A).length → (∀ j, mS y j ↔ (j < i ∧ mS x j ∧ aLb A p k j = v)) → h_X9_withNumber_6 2 (fun r τ => (∃ y, y < 2 ^ (aP A).length ∧ (∀ i, mS y i ↔ (mS x i ∧ aLb A p k i = v)) ∧ r = some (.int (Int32.ofNat y))) ∧ τ = xS I L z) (0, 0) I L z (Int32.ofNat x) (Int32.ofNat p) (Int32.ofNat k) (Int32.ofNat v) (Int32.ofNat y) (Int32.ofNat i) := by
    refine xcount _ (aP A).length ?_ ?_
    · intro i hi G y hy hb
      refine g_X9_withNumber_6 (by decide) ?_
      obtain ⟨c, y1, y2, y3, y4⟩ := xRef_at hA hR hi hp
      have i7 : i < 720 := by omega
      have s6 := aP_wd hA hi (show p < 6 by omega)
      obtain ⟨b1, b2, b3⟩ := g_mark (I := I) (L := L) (z := z) s6
      have q3 := xTM_num hM s6 hk
      have q5 := aNum_lt hA s6 hk
      rw [hR.2.1, if_pos ((xv_lt (by omega) (by omega)).mpr hi)]
      by_cases b : x.testBit i = true
      · rw [if_pos ((has_iff (by omega) (by omega)).mpr b)]
        simp (disch := omega) only [xl_0, xl_1, xl_2, xl_3, xl_4, xl_5, xl_6, xl_7, xl_8, xl_9, xl_10, xl_15, xl_18, xl_24, xl_31, xl_32, xl_36, xl_40, xl_48, xl_63, xl_64, xl_144, xl_250, xl_320, xl_720, xl_721, xl_1000, xl_1023, xl_1024, xv_lt, xv_eq, xv_in, xv_clamp, xv_add, xv_mul, xv_dec, xv_div, xv_mod, xv_m1, xv_m1', xv_and, xv_or, xv_shl, xv_shr, xv_bit0, xv_bit1, i7, y2, y3, y4, s6, b1, b3, hk, q3, cond_true, if_true, Nat.or_zero]
        by_cases e : aNum A k (wd ((aP A).getD i 0) p) = v
        · rw [if_pos e]
          refine G _ (tb_lt hy hi) fun j => ?_
          show (y ||| 1 * 2 ^ i).testBit j = true ↔ _
          rw [or_bit, Bool.or_eq_true, decide_eq_true_iff]
          constructor
          · rintro (w | w)
            · have := (hb j).mp w; exact ⟨by omega, this.2⟩
            · subst w; exact ⟨by omega, b, e⟩
          · rintro ⟨w1, w2, w3⟩
            by_cases d : i = j
            · exact Or.inr d
            · exact Or.inl ((hb j).mpr ⟨by omega, w2, w3⟩)
        · rw [if_neg e]
          refine G _ hy fun j => (hb j).trans ⟨fun w => ⟨by omega, w.2⟩, fun w => ⟨?_, w.2⟩⟩
          by_cases d : j = i
          · rw [d] at w; exact absurd w.2.2 e
          · have := w.1; omega
      · rw [if_neg (fun w => b ((has_iff (by omega) (by omega)).mp w)), Int32.or_zero, show Int32.ofNat i + 1 = Int32.ofNat (i + 1) from xv_add i 1]
        refine G _ hy fun j => (hb j).trans ⟨fun w => ⟨by omega, w.2⟩, fun w => ⟨?_, w.2⟩⟩
        by_cases d : j = i
        · rw [d] at w; exact absurd w.2.1 b
        · have := w.1; omega
    · intro y hy hb
      refine g_X9_withNumber_6 (by decide) ?_
      rw [hR.2.1, if_neg (fun q => Nat.lt_irrefl _ ((xv_lt (by omega) (by omega)).mp q))]
      refine ⟨⟨y, hy, fun i => (hb i).trans ⟨fun w => w.2, fun w => ⟨mS_lt hx w.1, w⟩⟩, rfl⟩, rfl⟩
  exact key 0 (Nat.zero_le _) 0 (Nat.two_pow_pos _) (fun j => by
    show Nat.testBit 0 j = true ↔ _
    rw [Nat.zero_testBit]
    exact ⟨fun w => absurd w (by decide), fun w => absurd w.1 (Nat.not_lt_zero _)⟩)
theorem oneS_iff {x m : Nat} (hx : x < 2 ^ m) : oneS (mS x) ↔ pcn x m ≤ 1 := by
  rw [pcn_cb]
  constructor
  · intro h; exact cb_one m (fun i j _ _ a b => h i j a b)
  · intro h i j a b; exact cb_le1 m h i j (mS_lt hx a) (mS_lt hx b) a b
def qB (v : Int32 → Prop) (I : xI) (L : xL) (z : Bool × Bool × Nat) : xQ := fun r τ => (∃ w : Int32, r = some (.int w) ∧ v w) ∧ τ = xS I L z
theorem t_canTellM {A : xAb} {I : xI} {L : xL} {z : Bool × Bool × Nat} {ks : Nat} (hA : abOK A) (hM : xTM I 66 A) (hR : xRef A I) (h24 : (aP A).length ≤ 24) (hk : ks < 16) : ∀ b, b ≤ 4 → ∀ x, x < 2 ^ (aP A).length → xCd (2 * b + 5) 258 [.ref 66, .int (Int32.ofNat x), .int (Int32.ofNat ks), .int (Int32.ofNat b)] (xS I L z) (qB (fun w => w = 0 ↔ ¬ Tl (qsM A ks) b (mS x)) I L z) := by
  have h2 := hA.1.1
  have h6 := hA.1.2
  have h24' : 2 ^ (aP A).length ≤ 16777216 := Nat.pow_le_pow_right (show 0 < 2 by decide) h24
  have nn := hM.1.1
  intro b
  induction b with
  | zero =>
    intro _ x hx
    refine c_X9_canTell (g_X9_canTell_0 (by decide) ?_)
    refine xuse (t_bits (n := (aP A).length) (by omega) hx) (by decide) ?_
    rintro _ _ ⟨rfl, rfl⟩
    refine g_X9_canTell_4 (by decide) ?_
    have hpl := pcn_le x (aP A).length
    by_cases c : pcn x (aP A).length < 2
    · rw [if_pos (show Int32.ofNat (pcn x (aP A).length) < (2 : Int32) from (xv_lt (b := 2) (by omega) (by decide)).mpr c)]
      exact ⟨⟨_, rfl, ⟨fun y => absurd y (by decide), fun y => absurd ((oneS_iff hx).mpr (by omega)) y⟩⟩, rfl⟩
    · rw [if_neg (show ¬ Int32.ofNat (pcn x (aP A).length) < (2 : Int32) from fun q => c ((xv_lt (b := 2) (by omega) (by decide)).mp q)), if_pos (show Int32.ofNat 0 = (0 : Int32) from rfl)]
      exact ⟨⟨_, rfl, ⟨fun _ y => by have := (oneS_iff hx).mp y; omega, fun _ => rfl⟩⟩, rfl⟩
  | succ b ih =>
    intro hb4 x hx
    refine c_X9_canTell (g_X9_canTell_0 (by omega) ?_)
    refine xuse (t_bits (n := (aP A).length) (by omega) hx) (by omega) ?_
    rintro _ _ ⟨rfl, rfl⟩
    refine g_X9_canTell_4 (by omega) ?_
    have hpl := pcn_le x (aP A).length
    by_cases c : pcn x (aP A).length < 2
    · rw [if_pos (show Int32.ofNat (pcn x (aP A).length) < (2 : Int32) from (xv_lt (b := 2) (by omega) (by decide)).mpr c)]
      exact ⟨⟨_, rfl, ⟨fun y => absurd y (by decide), fun y => absurd (Tl_one ((oneS_iff hx).mpr (by omega)) _) y⟩⟩, rfl⟩
    · have nOne : ¬ oneS (mS x) := fun y => by have := (oneS_iff hx).mp y; omega
      rw [if_neg (show ¬ Int32.ofNat (pcn x (aP A).length) < (2 : Int32) from fun q => c ((xv_lt (b := 2) (by omega) (by decide)).mp q)), if_neg (show ¬ Int32.ofNat (b + 1) = (0 : Int32) from fun q => by have := (xv_eq (b := 0) (by omega) (by decide)).mp q; omega)]
      -- what all the questions say
      have parts : ∀ p k, p < ab_n A → k < 4 → xCd (2 * b + 6) 259 [.ref 66, .int (Int32.ofNat x), .int (Int32.ofNat ks), .int (Int32.ofNat (b + 1)), .int (Int32.ofNat p), .int (Int32.ofNat k)] (xS I L z) (qB (fun w => w = 0 ↔ ¬ ((∀ v, ¬ ∀ i, mS x i → aLb A p k i = v) ∧ ∀ v, Tl (qsM A ks) b (fun i => mS x i ∧ aLb A p k i = v))) I L z) := by
        intro p k hp hk4
        refine c_X9_partsTell (g_X9_partsTell_0 (by omega) ?_)
        have key : ∀ v, v ≤ 10 → (∀ u, u < v → (¬ ∀ i, mS x i → aLb A p k i = u) ∧ Tl (qsM A ks) b (fun i => mS x i ∧ aLb A p k i = u)) → h_X9_partsTell_3 (2 * b + 5) (qB (fun w => w = 0 ↔ ¬ ((∀ v, ¬ ∀ i, mS x i → aLb A p k i = v) ∧ ∀ v, Tl (qsM A ks) b (fun i => mS x i ∧ aLb A p k i = v))) I L z) (0, 0) I L z (Int32.ofNat x) (Int32.ofNat ks) (Int32.ofNat (b + 1)) (Int32.ofNat p) (Int32.ofNat k) (Int32.ofNat v) := by
          refine xcount _ 10 ?_ ?_
          · intro v hv G hu
            refine g_X9_partsTell_3 (by omega) ?_
            rw [if_pos (show Int32.ofNat v < (10 : Int32) from (xv_lt (b := 10) (by omega) (by decide)).mpr hv)]
            refine xuse (t_withNumber hA hM hR h24 hx hp hk4 hv) (by omega) ?_
            rintro _ _ ⟨⟨y, y1, y2, rfl⟩, rfl⟩
            refine g_X9_partsTell_21 (by omega) ?_
            by_cases e : y = x
            · rw [if_pos (by rw [e])]
              refine ⟨⟨_, rfl, ⟨fun _ w => w.1 v (fun i hi => ?_), fun _ => rfl⟩⟩, rfl⟩
              rw [← e] at hi
              exact ((y2 i).mp hi).2
            · rw [if_neg (fun q => e ((xv_eq (by omega) (by omega)).mp q)), show Int32.ofNat (b + 1) - 1 = Int32.ofNat b from xv_sub (a := b + 1) (b := 1) (by omega)]
              refine xuse (ih (by omega) y y1) (by omega) ?_
              rintro _ _ ⟨⟨w, rfl, hw⟩, rfl⟩
              refine g_X9_partsTell_39 (by omega) ?_
              by_cases w0 : w = 0
              · rw [if_pos w0]
                refine ⟨⟨_, rfl, ⟨fun _ q => hw.mp w0 (Tl_sub b (fun i hi => (y2 i).mp hi) (q.2 v)), fun _ => rfl⟩⟩, rfl⟩
              · rw [if_neg w0, show Int32.ofNat v + 1 = Int32.ofNat (v + 1) from xv_add v 1]
                have tl : Tl (qsM A ks) b (mS y) := Classical.byContradiction fun q => w0 (hw.mpr q)
                refine G fun u hu' => ?_
                by_cases d : u = v
                · subst d
                  refine ⟨fun q => e ?_, Tl_sub b (fun i hi => (y2 i).mpr hi) tl⟩
                  apply Nat.eq_of_testBit_eq
                  intro i
                  rw [Bool.eq_iff_iff]
                  exact (y2 i).trans ⟨fun w => w.1, fun w => ⟨w, q i w⟩⟩
                · exact hu u (by omega)
          · intro hu
            refine g_X9_partsTell_3 (by omega) ?_
            rw [if_neg (by decide)]
            refine ⟨⟨_, rfl, ⟨fun w => absurd w (by decide), fun w => absurd ⟨fun v hv => ?_, fun v => ?_⟩ w⟩⟩, rfl⟩
            · by_cases d : v < 10
              · exact (hu v d).1 hv
              · have nz : ∃ i, mS x i := Classical.byContradiction fun q => nOne (fun i j a _ => absurd ⟨i, a⟩ q)
                obtain ⟨i, hi⟩ := nz
                have := aLb_lt hA hp hk4 (mS_lt hx hi)
                have := hv i hi
                omega
            · by_cases d : v < 10
              · exact (hu v d).2
              · exact Tl_one (fun i j a _ => by
                  have := aLb_lt hA hp hk4 (mS_lt hx a.1)
                  have := a.2
                  omega) b
        exact key 0 (by decide) (fun u hu => absurd hu (Nat.not_lt_zero _))
      have search : h_X9_canTell_35 (2 * (b + 1) + 4) (qB (fun w => w = 0 ↔ ¬ Tl (qsM A ks) (b + 1) (mS x)) I L z) (0, 0) I L z (Int32.ofNat x) (Int32.ofNat ks) (Int32.ofNat (b + 1)) (Int32.ofNat (pcn x (aP A).length)) 0 := by
        have key : ∀ p, p ≤ ab_n A → (∀ q k, q < p → k < 4 → ks.testBit k = true → ¬ ((∀ v, ¬ ∀ i, mS x i → aLb A q k i = v) ∧ ∀ v, Tl (qsM A ks) b (fun i => mS x i ∧ aLb A q k i = v))) → h_X9_canTell_35 (2 * (b + 1) + 4) (qB (fun w => w = 0 ↔ ¬ Tl (qsM A ks) (b + 1) (mS x)) I L z) (0, 0) I L z (Int32.ofNat x) (Int32.ofNat ks) (Int32.ofNat (b + 1)) (Int32.ofNat (pcn x (aP A).length)) (Int32.ofNat p) := by
          refine xcount _ (ab_n A) ?_ ?_
          · intro p hp G hq
            refine g_X9_canTell_35 (by omega) ?_
            rw [nn, if_pos ((xv_lt (by omega) (by omega)).mpr hp)]
            have key2 : ∀ k, k ≤ 4 → (∀ j, j < k → ks.testBit j = true → ¬ ((∀ v, ¬ ∀ i, mS x i → aLb A p j i = v) ∧ ∀ v, Tl (qsM A ks) b (fun i => mS x i ∧ aLb A p j i = v))) → h_X9_canTell_47 (2 * (b + 1) + 4) (qB (fun w => w = 0 ↔ ¬ Tl (qsM A ks) (b + 1) (mS x)) I L z) (0, 0) I L z (Int32.ofNat x) (Int32.ofNat ks) (Int32.ofNat (b + 1)) (Int32.ofNat (pcn x (aP A).length)) (Int32.ofNat p) (Int32.ofNat k) := by
              refine xcount _ 4 ?_ ?_
              · intro k hk4 G2 hj
                refine g_X9_canTell_47 (by omega) ?_
                rw [if_pos (show Int32.ofNat k < (4 : Int32) from (xv_lt (b := 4) (by omega) (by decide)).mpr hk4), show Int32.ofNat k + 1 = Int32.ofNat (k + 1) from xv_add k 1]
                by_cases bt : ks.testBit k = true
                · rw [if_pos ((has_iff (by omega) (by omega)).mpr bt)]
                  refine xuse (parts p k hp hk4) (by omega) ?_
                  rintro _ _ ⟨⟨w, rfl, hw⟩, rfl⟩
                  refine g_X9_canTell_73 (by omega) ?_
                  by_cases w0 : w = 0
                  · rw [if_pos w0, show Int32.ofNat k + 1 = Int32.ofNat (k + 1) from xv_add k 1]
                    refine G2 fun j hj' hb => ?_
                    by_cases d : j = k
                    · rw [d]; exact hw.mp w0
                    · exact hj j (by omega) hb
                  · rw [if_neg w0]
                    have yes := Classical.byContradiction fun q => w0 (hw.mpr q)
                    refine ⟨⟨_, rfl, ⟨fun y => absurd y (by decide), fun y => absurd ?_ y⟩⟩, rfl⟩
                    exact Or.inr ⟨aLb A p k, ⟨p, k, hp, hk4, bt, rfl⟩, yes.2⟩
                · rw [if_neg (fun w => bt ((has_iff (by omega) (by omega)).mp w))]
                  refine G2 fun j hj' hb => ?_
                  by_cases d : j = k
                  · rw [d] at hb; exact absurd hb bt
                  · exact hj j (by omega) hb
              · intro hj
                refine g_X9_canTell_47 (by omega) ?_
                rw [if_neg (by decide), show Int32.ofNat p + 1 = Int32.ofNat (p + 1) from xv_add p 1]
                refine G fun q k hq' hk4 hb => ?_
                by_cases d : q = p
                · rw [d]; exact hj k hk4 hb
                · exact hq q k (by omega) hk4 hb
            exact key2 0 (by decide) (fun j hj => absurd hj (Nat.not_lt_zero _))
          · intro hq
            refine g_X9_canTell_35 (by omega) ?_
            rw [nn, if_neg (fun q => Nat.lt_irrefl _ ((xv_lt (by omega) (by omega)).mp q))]
            refine ⟨⟨_, rfl, ⟨fun _ y => ?_, fun _ => rfl⟩⟩, rfl⟩
            obtain ⟨lab, ⟨p, k, hp, hk4, bt, rfl⟩, l2, l3⟩ := Tl_strict b nOne y
            exact hq p k hp hk4 bt ⟨l2, l3⟩
        exact key 0 (Nat.zero_le _) (fun q k hq => absurd hq (Nat.not_lt_zero _))
      by_cases b1 : b + 1 = 1
      · rw [if_pos (show Int32.ofNat (b + 1) = (1 : Int32) by rw [b1]; rfl)]
        by_cases c10 : 10 < pcn x (aP A).length
        · rw [if_pos (show (10 : Int32) < Int32.ofNat (pcn x (aP A).length) from (xv_lt (a := 10) (by decide) (by omega)).mpr c10)]
          refine ⟨⟨_, rfl, ⟨fun _ y => ?_, fun _ => rfl⟩⟩, rfl⟩
          have cnt := Tl_count (Qs := qsM A ks) (m := (aP A).length) (M := 10) (by decide) (fun lab hl => by
            obtain ⟨p, k, hp, hk4, bt, rfl⟩ := hl
            refine ⟨10, fun _ => true, fun i hi => ⟨aLb_lt hA hp hk4 hi, rfl⟩, ?_⟩
            exact Nat.le_of_eq (sum6_ones 10)) (b + 1) (f := fun i => x.testBit i) (Tl_sub _ (fun i h => h.2) y)
          rw [← pcn_cb, b1] at cnt
          omega
        · rw [if_neg (show ¬ (10 : Int32) < Int32.ofNat (pcn x (aP A).length) from fun q => c10 ((xv_lt (a := 10) (by decide) (by omega)).mp q))]
          exact search
      · rw [if_neg (show ¬ Int32.ofNat (b + 1) = (1 : Int32) from fun q => b1 ((xv_eq (b := 1) (by omega) (by decide)).mp q))]
        exact search
def never (A : xAb) (ks : Nat) : Prop := ∃ i j, j < i ∧ i < (aP A).length ∧ alW A ks ((aP A).getD i 0) ((aP A).getD j 0)
theorem t_canNever {A : xAb} {I : xI} {L : xL} {z : Bool × Bool × Nat} {ks : Nat} (hA : abOK A) (hM : xTM I 66 A) (hR : xRef A I) (hk : ks < 16) : xCd 4 261 [.ref 66, .int (Int32.ofNat ks)] (xS I L z) (qB (fun w => w = 0 ↔ ¬ never A ks) I L z) := by
  have hl := aP_len hA
  refine c_X9_canNever (g_X9_canNever_0 (by decide) ?_)
  obtain ⟨ix, hx⟩ := hR.2.2
  have h7 := (aW_len hA).2
  have key : ∀ i, i ≤ (aP A).length → (∀ a b, b < a → a < i → ¬ alW A ks ((aP A).getD a 0) ((aP A).getD b 0)) → h_X9_canNever_2 3 (qB (fun w => w = 0 ↔ ¬ never A ks) I L z) (0, 0) I L z (Int32.ofNat ks) (Int32.ofNat i) := by
    refine xcount _ (aP A).length ?_ ?_
    · intro i hi G hab
      refine g_X9_canNever_2 (by decide) ?_
      rw [hR.2.1, if_pos ((xv_lt (by omega) (by omega)).mpr hi)]
      obtain ⟨x1, x2, x3⟩ := hx i hi
      have key2 : ∀ j, j ≤ i → (∀ b, b < j → ¬ alW A ks ((aP A).getD i 0) ((aP A).getD b 0)) → h_X9_canNever_12 3 (qB (fun w => w = 0 ↔ ¬ never A ks) I L z) (0, 0) I L z (Int32.ofNat ks) (Int32.ofNat i) (Int32.ofNat j) := by
        refine xcount _ i ?_ ?_
        · intro j hj G2 hb
          refine g_X9_canNever_12 (by decide) ?_
          obtain ⟨y1, y2, y3⟩ := hx j (by omega)
          rw [if_pos ((xv_lt (by omega) (by omega)).mpr hj), if_pos ((xv_in (by omega)).mpr (by omega)), if_pos ((xv_in (by omega)).mpr (by omega)), xv_clamp (by omega), xv_clamp (by omega), x3, y3]
          refine xuse (t_areAlikeM hA hM hR.1 x1 y1 hk) (by decide) ?_
          rintro _ _ ⟨⟨v, rfl, hv⟩, rfl⟩
          rw [x2, y2] at hv
          refine g_X9_canNever_34 (by decide) ?_
          by_cases e : v = 0
          · rw [if_pos e, show Int32.ofNat j + 1 = Int32.ofNat (j + 1) from xv_add j 1]
            refine G2 fun b hb' => ?_
            by_cases d : b = j
            · rw [d]; exact hv.mp e
            · exact hb b (by omega)
          · rw [if_neg e]
            have yes := Classical.byContradiction fun q => e (hv.mpr q)
            exact ⟨⟨_, rfl, ⟨fun y => absurd y (by decide), fun y => absurd ⟨i, j, hj, hi, yes⟩ y⟩⟩, rfl⟩
        · intro hb
          refine g_X9_canNever_12 (by decide) ?_
          rw [if_neg (fun q => Nat.lt_irrefl _ ((xv_lt (by omega) (by omega)).mp q)), show Int32.ofNat i + 1 = Int32.ofNat (i + 1) from xv_add i 1]
          refine G fun a b hba ha => ?_
          by_cases d : a = i
          · rw [d]; rw [d] at hba; exact hb b hba
          · exact hab a b hba (by omega)
      exact key2 0 (Nat.zero_le _) (fun b hb => absurd hb (Nat.not_lt_zero _))
    · intro hab
      refine g_X9_canNever_2 (by decide) ?_
      rw [hR.2.1, if_neg (fun q => Nat.lt_irrefl _ ((xv_lt (by omega) (by omega)).mp q))]
      exact ⟨⟨_, rfl, ⟨fun _ ⟨i, j, a, b, c⟩ => hab i j a b c, fun _ => rfl⟩⟩, rfl⟩
  exact key 0 (Nat.zero_le _) (fun a b _ h => absurd h (Nat.not_lt_zero _))
