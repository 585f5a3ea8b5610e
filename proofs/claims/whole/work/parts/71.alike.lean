/-! which sorts are alike by some kinds of signs; keys of worlds -/
def alk (A : xAb) (ks s t : Nat) : Prop := ∀ k, k < 4 → ks.testBit k = true → aNum A k s = aNum A k t
theorem cnd_1 {I : xI} {u p : Nat} (hu : u < 2147483648) (hp : p < 32) : (((Int32.ofNat u >>> (Int32.ofNat p &&& 31)) &&& 1) = 1) ↔ u.testBit p = true := by
  rw [show (31 : Int32) = Int32.ofNat 31 from rfl, show (1 : Int32) = Int32.ofNat 1 from rfl, xv_and, xv_shr hu hp, xv_and]
  exact xv_bit1
theorem t_areAlikeX {A : xAb} {I : xI} {L : xL} {z : Bool × Bool × Nat} {s t ks : Nat} (hA : abOK A) (hX : xTX I 10 A) (hs : s < 6) (ht : t < 6) (hk : ks < 16) : xCd 2 25 [.ref 43, .int (Int32.ofNat s), .int (Int32.ofNat t), .int (Int32.ofNat ks)] (xS I L z) (fun r τ => (∃ v : Int32, r = some (.int v) ∧ (v = 0 ↔ ¬ alk A ks s t)) ∧ τ = xS I L z) := by
  refine c_X1_areAlike (g_X1_areAlike_0 (by decide) ?_)
  have key : ∀ k, k ≤ 4 → (∀ j, j < k → ks.testBit j = true → aNum A j s = aNum A j t) → h_X1_areAlike_3 1 (fun r τ => (∃ v : Int32, r = some (.int v) ∧ (v = 0 ↔ ¬ alk A ks s t)) ∧ τ = xS I L z) (0, 0) I L z (Int32.ofNat s) (Int32.ofNat t) (Int32.ofNat ks) (Int32.ofNat k) := by
    refine xcount _ 4 ?_ ?_
    · intro k hk4 K hj
      refine g_X1_areAlike_3 (by decide) ?_
      rw [if_pos (show Int32.ofNat k < (4 : Int32) from (xv_lt (b := 4) (by omega) (by decide)).mpr hk4), f_num hX hk4 hs, f_num hX hk4 ht, show Int32.ofNat k + 1 = Int32.ofNat (k + 1) from xv_add k 1]
      have n1 := aNum_lt hA hs hk4
      have n2 := aNum_lt hA ht hk4
      by_cases b : ks.testBit k = true
      · rw [if_pos ((cnd_1 (I := I) (by omega) (by omega)).mpr b)]
        by_cases e : aNum A k s = aNum A k t
        · rw [if_pos (by rw [e])]
          refine K fun j hj' hb => ?_
          by_cases c : j = k
          · rw [c]; exact e
          · exact hj j (by omega) hb
        · rw [if_neg (fun x => e ((xv_eq (by omega) (by omega)).mp x))]
          exact ⟨⟨_, rfl, ⟨fun _ x => e (x k hk4 b), fun _ => rfl⟩⟩, rfl⟩
      · rw [if_neg (fun x => b ((cnd_1 (I := I) (by omega) (by omega)).mp x))]
        refine K fun j hj' hb => ?_
        by_cases c : j = k
        · rw [c] at hb; exact absurd hb b
        · exact hj j (by omega) hb
    · intro hj
      refine g_X1_areAlike_3 (by decide) ?_
      rw [if_neg (by decide)]
      exact ⟨⟨_, rfl, ⟨fun x => absurd x (by decide), fun x => absurd hj x⟩⟩, rfl⟩
  exact key 0 (by decide) (fun j hj => absurd hj (Nat.not_lt_zero _))
/-- the least sort that is alike -/
def isLk (A : xAb) (ks s l : Nat) : Prop := l ≤ s ∧ alk A ks s l ∧ ∀ j, j < l → ¬ alk A ks s j
theorem lk_eq {A : xAb} {ks s t a b : Nat} (h : isLk A ks s a) (k : isLk A ks t b) : a = b ↔ alk A ks s t := by
  constructor
  · rintro rfl
    intro j hj hb
    exact (h.2.1 j hj hb).trans (k.2.1 j hj hb).symm
  · intro e
    rcases Nat.lt_trichotomy a b with x | x | x
    · exact absurd (fun j hj hb => (e j hj hb).symm.trans (h.2.1 j hj hb)) (k.2.2 a x)
    · exact x
    · exact absurd (fun j hj hb => (e j hj hb).trans (k.2.1 j hj hb)) (h.2.2 b x)
def scrL : Nat → Nat → Prop := fun o _ => o = 48
theorem t_findLikes {A : xAb} {I : xI} {L : xL} {z : Bool × Bool × Nat} {ks : Nat} (hA : abOK A) (hX : xTX I 10 A) (hk : ks < 16) : xCd 3 24 [.ref 43, .int (Int32.ofNat ks)] (xS I L z) (qN scrL I L z (fun J => ∃ lk : Nat → Nat, ∀ s, s < 6 → J 48 s = Int32.ofNat (lk s) ∧ isLk A ks s (lk s))) := by
  refine c_X1_findLikes (g_X1_findLikes_0 (by decide) ?_)
  have key : ∀ s, s ≤ 6 → ∀ J : xI, xsm scrL I J → (∃ lk : Nat → Nat, ∀ t, t < s → J 48 t = Int32.ofNat (lk t) ∧ isLk A ks t (lk t)) → h_X1_findLikes_2 2 (qN scrL I L z (fun J => ∃ lk : Nat → Nat, ∀ s, s < 6 → J 48 s = Int32.ofNat (lk s) ∧ isLk A ks s (lk s))) (0, 0) J L z (Int32.ofNat ks) (Int32.ofNat s) := by
    refine xcount _ 6 ?_ ?_
    · intro s hs K J hJ j0
      refine g_X1_findLikes_2 (by decide) ?_
      rw [if_pos (show Int32.ofNat s < (6 : Int32) from (xv_lt (b := 6) (by omega) (by decide)).mpr hs)]
      have hX' : xTX J 10 A := xTX_sm hJ (fun k hk => by unfold scrL; omega) (fun o a b k => by unfold scrL; omega) hX
      have store : ∀ l, l < 6 → isLk A ks s l → h_X1_findLikes_2 2 (qN scrL I L z (fun J => ∃ lk : Nat → Nat, ∀ s, s < 6 → J 48 s = Int32.ofNat (lk s) ∧ isLk A ks s (lk s))) (0, 0) (xw J 48 s (Int32.ofNat l)) L z (Int32.ofNat ks) (Int32.ofNat s + 1) := by
        intro l hl6 hl
        rw [show Int32.ofNat s + 1 = Int32.ofNat (s + 1) from xv_add s 1]
        obtain ⟨lk, hlk⟩ := j0
        refine K _ (xsm_xw rfl hJ) ⟨fun t => if t = s then l else lk t, fun t ht => ?_⟩
        dsimp only
        by_cases e : t = s
        · rw [if_pos e, e, xw_eq]; exact ⟨rfl, hl⟩
        · rw [if_neg e, xw_ne2 e]; exact hlk t (by omega)
      have key2 : ∀ l, l ≤ s → (∀ j, j < l → ¬ alk A ks s j) → h_X1_findLikes_10 2 (qN scrL I L z (fun J => ∃ lk : Nat → Nat, ∀ s, s < 6 → J 48 s = Int32.ofNat (lk s) ∧ isLk A ks s (lk s))) (0, 0) J L z (Int32.ofNat ks) (Int32.ofNat s) (Int32.ofNat l) := by
        refine xcount _ s ?_ ?_
        · intro l hl K2 hj
          refine g_X1_findLikes_10 (by decide) ?_
          rw [if_pos ((xv_lt (by omega) (by omega)).mpr hl)]
          refine xuse (t_areAlikeX hA hX' hs (show l < 6 by omega) hk) (by decide) ?_
          rintro _ _ ⟨⟨v, rfl, hv⟩, rfl⟩
          refine g_X1_findLikes_22 (by decide) ?_
          by_cases e : v = 0
          · rw [if_pos e, show Int32.ofNat l + 1 = Int32.ofNat (l + 1) from xv_add l 1]
            refine K2 fun j hj' => ?_
            by_cases c : j = l
            · rw [c]; exact hv.mp e
            · exact hj j (by omega)
          · rw [if_neg e, if_pos ((xv_in (by omega)).mpr hs), xv_clamp (by omega)]
            exact store l (by omega) ⟨by omega, Classical.byContradiction fun x => e (hv.mpr x), hj⟩
        · intro hj
          refine g_X1_findLikes_10 (by decide) ?_
          rw [if_neg (fun q => Nat.lt_irrefl _ ((xv_lt (by omega) (by omega)).mp q)), if_pos ((xv_in (by omega)).mpr hs), xv_clamp (by omega)]
          exact store s hs ⟨Nat.le_refl _, fun _ _ _ => rfl, hj⟩
      exact key2 0 (Nat.zero_le _) (fun j hj => absurd hj (Nat.not_lt_zero _))
    · intro J hJ j0
      refine g_X1_findLikes_2 (by decide) ?_
      rw [if_neg (by decide)]
      exact ⟨rfl, J, rfl, hJ, j0⟩
  exact key 0 (by decide) I (xsm_refl _ _) ⟨fun _ => 0, fun t ht => absurd ht (Nat.not_lt_zero _)⟩
theorem f_putAt {I : xI} {L : xL} {v p : Nat} (hs : xShf I) (hp : p < 6) : f_X7_putAt I L (Int32.ofNat v) (Int32.ofNat p) = Int32.ofNat (v * 2 ^ (15 - 3 * p)) := by
  unfold f_X7_putAt
  simp (disch := omega) only [xl_0, xl_1, xl_2, xl_3, xl_4, xl_5, xl_6, xl_7, xl_8, xl_9, xl_10, xl_15, xl_18, xl_24, xl_31, xl_32, xl_36, xl_40, xl_48, xl_63, xl_64, xl_144, xl_250, xl_320, xl_720, xl_721, xl_1000, xl_1023, xl_1024, xv_lt, xv_eq, xv_in, xv_clamp, xv_add, xv_mul, xv_dec, xv_div, xv_mod, xv_m1, xv_m1', xv_and, xv_or, xv_shl, xv_shr, xv_bit0, xv_bit1, Nat.not_lt_zero, hp, hs p hp, if_true, if_false]
theorem and7 {v : Nat} (h : v < 8) : v &&& 7 = v := by
  rw [show (7 : Nat) = 2 ^ 3 - 1 from rfl, Nat.and_two_pow_sub_one_eq_mod]; omega
theorem t_likeOf {A : xAb} {I : xI} {L : xL} {z : Bool × Bool × Nat} {w : Nat} {lk : Nat → Nat} (hA : abOK A) (hX : xTX I 10 A) (hs : xShf I) (hw : w ∈ aW A) (hl : ∀ s, s < 6 → I 48 s = Int32.ofNat (lk s) ∧ lk s < 6) : xCd 2 26 [.ref 43, .int (Int32.ofNat w)] (xS I L z) (qP I L z (Int32.ofNat (wc (fun p => lk (wd w p)) (ab_n A)))) := by
  have h6 := hA.1.2
  have nn := hX.1.1
  refine c_X1_likeOf (g_X1_likeOf_0 (by decide) ?_)
  have key : ∀ p, p ≤ ab_n A → h_X1_likeOf_4 1 (qP I L z (Int32.ofNat (wc (fun p => lk (wd w p)) (ab_n A)))) (0, 0) I L z (Int32.ofNat w) (Int32.ofNat (wc (fun p => lk (wd w p)) p)) (Int32.ofNat p) := by
    refine xcount _ (ab_n A) ?_ ?_
    · intro p hp K
      refine g_X1_likeOf_4 (by decide) ?_
      have s6 := (aW_wd hA hw (show p < 6 by omega)).1
      obtain ⟨l1, l2⟩ := hl _ s6
      rw [f_sortAt hs (aW_lt hA hw) (show p < 6 by omega), nn, if_pos ((xv_lt (by omega) (by omega)).mpr hp), if_pos (show Int32.ofNat (wd w p) < (6 : Int32) from (xv_lt (b := 6) (by omega) (by decide)).mpr s6), if_pos ((xv_in (by omega)).mpr s6), xv_clamp (by omega), l1, f_putAt hs (by omega), xv_or, show Int32.ofNat p + 1 = Int32.ofNat (p + 1) from xv_add p 1]
      have := wc_or (f := fun p => lk (wd w p)) (n := p) (by omega) (by show lk (wd w p) < 8; omega)
      rw [and7 (show lk (wd w p) < 8 by omega)] at this
      rw [this]
      exact K
    · refine g_X1_likeOf_4 (by decide) ?_
      rw [nn, if_neg (fun q => Nat.lt_irrefl _ ((xv_lt (by omega) (by omega)).mp q))]
      exact ⟨rfl, rfl⟩
  exact key 0 (Nat.zero_le _)
/-- worlds that are alike by some kinds at all places -/
def alW (A : xAb) (ks w v : Nat) : Prop := ∀ p, p < ab_n A → alk A ks (wd w p) (wd v p)
theorem key_eq {A : xAb} {ks w v : Nat} {lk : Nat → Nat} (hA : abOK A) (hw : w ∈ aW A) (hv : v ∈ aW A) (hl : ∀ s, s < 6 → isLk A ks s (lk s)) : wc (fun p => lk (wd w p)) (ab_n A) = wc (fun p => lk (wd v p)) (ab_n A) ↔ alW A ks w v := by
  have h6 := hA.1.2
  have lt : ∀ s, s < 6 → lk s < 6 := fun s hs => Nat.lt_of_le_of_lt (hl s hs).1 hs
  have w6 : ∀ p, p < ab_n A → wd w p < 6 := fun p hp => (aW_wd hA hw (by omega)).1
  have v6 : ∀ p, p < ab_n A → wd v p < 6 := fun p hp => (aW_wd hA hv (by omega)).1
  constructor
  · intro e p hp
    have := wc_inj h6 (fun i hi => by have := lt _ (w6 i hi); (try dsimp only); omega) (fun i hi => by have := lt _ (v6 i hi); (try dsimp only); omega) e hp
    exact (lk_eq (hl _ (w6 p hp)) (hl _ (v6 p hp))).mp this
  · intro e
    exact wc_congr _ fun p hp => (lk_eq (hl _ (w6 p hp)) (hl _ (v6 p hp))).mpr (e p hp)
/-- the places of a set, each with all its bits -/
theorem wd_and (x y p : Nat) : wd (x &&& y) p = wd x p &&& wd y p := by
  unfold wd
  rw [Nat.shiftRight_and_distrib]
  apply Nat.eq_of_testBit_eq
  intro i
  simp only [Nat.testBit_and]
  cases (x >>> (15 - 3 * p)).testBit i <;> cases (y >>> (15 - 3 * p)).testBit i <;> cases (Nat.testBit 7 i) <;> rfl
theorem wd_ext {x y : Nat} (hx : x < 262144) (hy : y < 262144) (h : ∀ p, p < 6 → wd x p = wd y p) : x = y := by
  have h0 := h 0 (by decide); have h1 := h 1 (by decide); have h2 := h 2 (by decide)
  have h3 := h 3 (by decide); have h4 := h 4 (by decide); have h5 := h 5 (by decide)
  simp only [wd_eq, Nat.reduceMul, Nat.reduceSub, Nat.reducePow] at h0 h1 h2 h3 h4 h5
  omega
def msk (set n : Nat) : Nat := wc (fun p => if set.testBit p = true then 7 else 0) n
theorem msk_wd {set n p : Nat} (hn : n ≤ 6) (hp : p < 6) : wd (msk set n) p = if p < n then (if set.testBit p = true then 7 else 0) else 0 := by
  unfold msk
  rw [wd_wc hn (fun i _ => by (try dsimp only); split <;> decide) hp]
theorem and_7 {v : Nat} (h : v < 8) : v &&& 7 = v := and7 h
theorem mk_eq {A : xAb} {set w v : Nat} (hA : abOK A) (hw : w ∈ aW A) (hv : v ∈ aW A) : w &&& msk set (ab_n A) = v &&& msk set (ab_n A) ↔ ∀ p, p < ab_n A → set.testBit p = true → wd w p = wd v p := by
  have h6 := hA.1.2
  have d : ∀ x p, p < 6 → wd (x &&& msk set (ab_n A)) p = if p < ab_n A ∧ set.testBit p = true then wd x p else 0 := by
    intro x p hp
    rw [wd_and, msk_wd h6 hp]
    by_cases c : p < ab_n A
    · rw [if_pos c]
      by_cases b : set.testBit p = true
      · rw [if_pos b, if_pos ⟨c, b⟩, and7 (wd_lt _ _)]
      · rw [if_neg b, if_neg (fun x => b x.2), Nat.and_zero]
    · rw [if_neg c, if_neg (fun x => c x.1), Nat.and_zero]
  constructor
  · intro e p hp hb
    have a := d w p (by omega)
    have b := d v p (by omega)
    rw [if_pos ⟨hp, hb⟩] at a b
    rw [← a, ← b, e]
  · intro e
    refine wd_ext (Nat.lt_of_le_of_lt Nat.and_le_left (aW_lt hA hw)) (Nat.lt_of_le_of_lt Nat.and_le_left (aW_lt hA hv)) fun p hp => ?_
    rw [d w p hp, d v p hp]
    by_cases c : p < ab_n A ∧ set.testBit p = true
    · rw [if_pos c, if_pos c]; exact e p c.1 c.2
    · rw [if_neg c, if_neg c]
/-- all unlike by the sorts of a set of places -/
def toldBy (A : xAb) (set : Nat) : Prop := ∀ i j, j < i → i < (aP A).length → ∃ p, p < ab_n A ∧ set.testBit p = true ∧ wd ((aP A).getD i 0) p ≠ wd ((aP A).getD j 0) p
theorem t_isToldBy {A : xAb} {I : xI} {L : xL} {z : Bool × Bool × Nat} {set t : Nat} (hA : abOK A) (hX : xTX I 10 A) (hs : xShf I) (hP : xPos A I) (hset : set < 64) (hT : xTal t I) (ht : t < 1000000) : xCd 2 22 [.ref 43, .int (Int32.ofNat set)] (xS I L z) (fun r τ => ∃ v : Int32, r = some (.int v) ∧ (v = 0 ↔ ¬ toldBy A set) ∧ ∃ J, τ = xS J L z ∧ xsm scrT I J ∧ xTal (t + 1) J) := by
  have h6 := hA.1.2
  have hl := aP_len hA
  have nn := hX.1.1
  refine c_X1_isToldBy (g_X1_isToldBy_0 (by decide) ?_)
  have key2 : ∀ i, i ≤ (aP A).length → ∀ J K, xsm scrT I J → xTab (t + 1) K (((aP A).take i).map (fun w => w &&& msk set (ab_n A))) J → tabOK K (((aP A).take i).map (fun w => w &&& msk set (ab_n A))) → (∀ a b, b < a → a < i → (aP A).getD a 0 &&& msk set (ab_n A) ≠ (aP A).getD b 0 &&& msk set (ab_n A)) → h_X1_isToldBy_48 1 (fun r τ => ∃ v : Int32, r = some (.int v) ∧ (v = 0 ↔ ¬ toldBy A set) ∧ ∃ J, τ = xS J L z ∧ xsm scrT I J ∧ xTal (t + 1) J) (0, 0) J L z (Int32.ofNat set) (Int32.ofNat (msk set (ab_n A))) (Int32.ofNat i) := by
    refine xcount _ (aP A).length ?_ ?_
    · intro i hi G J K hJ hTb hO hd
      refine g_X1_isToldBy_48 (by decide) ?_
      have hP' : xPos A J := xPos_sm hJ ⟨by unfold scrT; omega, fun k => by unfold scrT; omega, fun k => by unfold scrT; omega⟩ hP
      have hwi := (aP_mem.mp (gd_mem hi)).1
      have hwl := aW_lt hA hwi
      rw [f_possible hP' hl hi, hP'.1, if_pos ((xv_lt (by omega) (by omega)).mpr hi), xv_and]
      have klt : (aP A).getD i 0 &&& msk set (ab_n A) < 262144 := Nat.lt_of_le_of_lt Nat.and_le_left hwl
      refine xuse (t_add hTb hO (by omega) (fun k hk => by
        obtain ⟨w, hw, rfl⟩ := List.mem_map.mp hk
        have := aW_lt hA (aP_mem.mp (List.mem_of_mem_take hw)).1
        have := Nat.lt_of_le_of_lt (Nat.and_le_left (n := w) (m := msk set (ab_n A))) this
        omega) (by rw [List.length_map, List.length_take]; omega) (by omega)) (by decide) ?_
      rintro _ _ ⟨rfl, J', rfl, k0, K', k1, k2⟩
      refine g_X1_isToldBy_76 (by decide) ?_
      have hJ' : xsm scrT I J' := xsm_trans hJ (xsm_mono k0 (fun o k e => by unfold scrT' at e; unfold scrT; omega))
      have hcl : List.count ((aP A).getD i 0 &&& msk set (ab_n A)) (((aP A).take i).map (fun w => w &&& msk set (ab_n A))) ≤ i := Nat.le_trans List.count_le_length (by rw [List.length_map, List.length_take]; omega)
      have sn : ((aP A).take (i + 1)).map (fun w => w &&& msk set (ab_n A)) = ((aP A).take i).map (fun w => w &&& msk set (ab_n A)) ++ [(aP A).getD i 0 &&& msk set (ab_n A)] := by rw [take_snoc hi, List.map_append]; rfl
      by_cases c : ((aP A).getD i 0 &&& msk set (ab_n A)) ∈ ((aP A).take i).map (fun w => w &&& msk set (ab_n A))
      · have : 0 < List.count ((aP A).getD i 0 &&& msk set (ab_n A)) (((aP A).take i).map (fun w => w &&& msk set (ab_n A))) := List.count_pos_iff.mpr c
        rw [if_pos (show (1 : Int32) < Int32.ofNat _ from (xv_lt (a := 1) (by decide) (by omega)).mpr (by omega))]
        refine ⟨_, rfl, ⟨fun _ x => ?_, fun _ => rfl⟩, J', rfl, hJ', tab_tal k1⟩
        obtain ⟨w, hw, e⟩ := List.mem_map.mp c
        obtain ⟨j, hj, ej⟩ := mem_gd hw
        rw [List.length_take] at hj
        rw [gd_take (by omega)] at ej
        obtain ⟨p, p1, p2, p3⟩ := x i j (by omega) hi
        rw [← ej] at e
        exact p3 ((mk_eq hA (aP_mem.mp (gd_mem (show j < (aP A).length by omega))).1 hwi).mp e p p1 p2).symm
      · have : List.count ((aP A).getD i 0 &&& msk set (ab_n A)) (((aP A).take i).map (fun w => w &&& msk set (ab_n A))) = 0 := List.count_eq_zero.mpr c
        rw [this, if_neg (by decide), show Int32.ofNat i + 1 = Int32.ofNat (i + 1) from xv_add i 1]
        rw [← sn] at k1 k2
        refine G J' K' hJ' k1 k2 fun a b hab ha => ?_
        by_cases x : a = i
        · rw [x]
          intro e
          refine c (List.mem_map.mpr ⟨(aP A).getD b 0, ?_, e.symm⟩)
          have := gd_mem (l := (aP A).take i) (i := b) (by rw [List.length_take]; omega)
          rw [gd_take (by omega)] at this
          exact this
        · exact hd a b hab (by omega)
    · intro J K hJ hTb hO hd
      refine g_X1_isToldBy_48 (by decide) ?_
      have hP' : xPos A J := xPos_sm hJ ⟨by unfold scrT; omega, fun k => by unfold scrT; omega, fun k => by unfold scrT; omega⟩ hP
      rw [hP'.1, if_neg (fun q => Nat.lt_irrefl _ ((xv_lt (by omega) (by omega)).mp q))]
      refine ⟨_, rfl, ⟨fun x => absurd x (by decide), fun x => absurd ?_ x⟩, J, rfl, hJ, tab_tal hTb⟩
      intro i j hji hi
      refine Classical.byContradiction fun hno => hd i j hji hi ?_
      refine (mk_eq hA (aP_mem.mp (gd_mem hi)).1 (aP_mem.mp (gd_mem (by omega))).1).mpr fun p hp hb => ?_
      exact Classical.byContradiction fun e => hno ⟨p, hp, hb, e⟩
  have key : ∀ p, p ≤ ab_n A → h_X1_isToldBy_4 1 (fun r τ => ∃ v : Int32, r = some (.int v) ∧ (v = 0 ↔ ¬ toldBy A set) ∧ ∃ J, τ = xS J L z ∧ xsm scrT I J ∧ xTal (t + 1) J) (0, 0) I L z (Int32.ofNat set) (Int32.ofNat (msk set p)) (Int32.ofNat p) := by
    refine xcount _ (ab_n A) ?_ ?_
    · intro p hp K
      refine g_X1_isToldBy_4 (by decide) ?_
      rw [nn, if_pos ((xv_lt (by omega) (by omega)).mpr hp), show Int32.ofNat p + 1 = Int32.ofNat (p + 1) from xv_add p 1]
      have ew := wc_or (f := fun p => if set.testBit p = true then 7 else 0) (n := p) (by omega) (by (try dsimp only); split <;> decide)
      have em : msk set (p + 1) = wc (fun p => if set.testBit p = true then 7 else 0) (p + 1) := rfl
      rw [em, ← ew] at K
      by_cases b : set.testBit p = true
      · rw [if_pos ((cnd_1 (I := I) (by omega) (by omega)).mpr b), show (7 : Int32) = Int32.ofNat 7 from rfl, f_putAt hs (by omega), xv_or]
        rw [if_pos b] at K
        exact K
      · rw [if_neg (fun x => b ((cnd_1 (I := I) (by omega) (by omega)).mp x))]
        rw [if_neg b, show (0 &&& 7) * 2 ^ (15 - 3 * p) = 0 from Nat.zero_mul _, Nat.or_zero] at K
        exact K
    · refine g_X1_isToldBy_4 (by decide) ?_
      rw [nn, if_neg (fun q => Nat.lt_irrefl _ ((xv_lt (by omega) (by omega)).mp q))]
      obtain ⟨n1, n2⟩ := tab_new (L := L) (z := z) hT
      exact key2 0 (Nat.zero_le _) _ _ (xsm_xw (Or.inl ⟨rfl, rfl⟩) (xsm_refl _ _)) n1 n2 (fun a b _ h => absurd h (Nat.not_lt_zero _))
  exact key 0 (Nat.zero_le _)
