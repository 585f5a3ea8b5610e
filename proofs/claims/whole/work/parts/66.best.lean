theorem aFb_ex {A : xAb} {m u : Nat} (h : pcn u (ab_n A) < ab_n A) : ∃ q, aFb A m u = some q ∧ q < ab_n A ∧ u.testBit q = false := by
  cases c : aFb A m u with
  | none =>
    have := fbV_none _ c
    omega
  | some q => exact ⟨q, rfl, fbV_some _ _ c⟩
theorem t_findBestX {A : xAb} {I : xI} {L : xL} {z : Bool × Bool × Nat} (hA : abOK A) (hX : xTX I 10 A) (hP : xPos A I) : xCd 4 10 [.ref 50] (xS I L z) (qN scrB I L z (fun J => J 52 0 = Int32.ofNat (aLM A (ab_n A) 0) ∧ ∀ g, g < ab_n A → J 53 g = Int32.ofNat (gd (aPath A (ab_n A) 0) g))) := by
  have h2 := hA.1.1
  have h6 := hA.1.2
  have hp64 : 2 ^ ab_n A ≤ 64 := Nat.pow_le_pow_right (show 0 < 2 by decide) h6
  have hpos : 0 < 2 ^ ab_n A := Nat.two_pow_pos _
  refine c_X0_findBest (g_X0_findBest_0 (by decide) ?_)
  refine xuse (t_weigh hA hX hP) (by decide) ?_
  rintro _ _ ⟨rfl, J0, rfl, hJ0, w0⟩
  refine g_X0_findBest_4 (by decide) ?_
  have n0 : J0 10 0 = Int32.ofNat (ab_n A) := (hJ0 _ _ (by unfold scrB; omega)).trans hX.1.1
  have e1 : ((1 : Int32) <<< ((J0 10 0) &&& 31)) - 1 = Int32.ofNat (2 ^ ab_n A - 1) := by
    rw [n0, show (1 : Int32) = Int32.ofNat 1 from rfl, show (31 : Int32) = Int32.ofNat 31 from rfl, xv_and, xv_shl (by omega), Nat.one_mul, xv_sub (by omega)]
  rw [e1]
  have e2 : (if Int32.ofNat (2 ^ ab_n A - 1) < (64 : Int32) - 1 then Int32.ofNat (2 ^ ab_n A - 1) else (64 : Int32) - 1) = Int32.ofNat (2 ^ ab_n A - 1) := by
    by_cases c : Int32.ofNat (2 ^ ab_n A - 1) < (64 : Int32) - 1
    · rw [if_pos c]
    · rw [if_neg c]
      have : ¬ 2 ^ ab_n A - 1 < 63 := fun x => c (show Int32.ofNat (2 ^ ab_n A - 1) < Int32.ofNat 63 from (xv_lt (by omega) (by decide)).mpr x)
      rw [show 2 ^ ab_n A - 1 = 63 from by omega]; rfl
  rw [e2]
  -- the row of best places
  have k80 : ∀ a1 : Int32, ∀ g, g ≤ ab_n A → ∀ u, u < 2 ^ ab_n A → pcn u (ab_n A) = g → (∀ k, gd (aPath A (ab_n A) 0) (g + k) = gd (aPath A (ab_n A - g) u) k) → ∀ J : xI, xsm scrB I J → (∀ g, g < 6 → ∀ p, p < ab_n A → J 51 (g * 6 + p) = Int32.ofNat (wgt A g p)) → (∀ v, v < 2 ^ ab_n A → J 52 v = Int32.ofNat (aLM A (ab_n A - pcn v (ab_n A)) v)) → (∀ k, k < g → J 53 k = Int32.ofNat (gd (aPath A (ab_n A) 0) k)) → h_X0_findBest_80 3 (qN scrB I L z (fun J => J 52 0 = Int32.ofNat (aLM A (ab_n A) 0) ∧ ∀ g, g < ab_n A → J 53 g = Int32.ofNat (gd (aPath A (ab_n A) 0) g))) (0, 0) J L z a1 (Int32.ofNat u) (Int32.ofNat g) := by
    intro a1
    refine xcount _ (ab_n A) ?_ ?_
    · intro g hg K u hu hpc hpath J hJ jw jl jp
      refine g_X0_findBest_80 (by decide) ?_
      have nn : J 10 0 = Int32.ofNat (ab_n A) := (hJ _ _ (by unfold scrB; omega)).trans hX.1.1
      have g6 : g < 6 := by omega
      rw [nn, if_pos ((xv_lt (by omega) (by omega)).mpr hg), if_pos (show Int32.ofNat g < (6 : Int32) from (xv_lt (b := 6) (by omega) (by decide)).mpr g6)]
      obtain ⟨m, hm⟩ : ∃ m, ab_n A - g = m + 1 := ⟨ab_n A - g - 1, by omega⟩
      have hg2 : ab_n A - (m + 1) = g := by omega
      refine xuse (t_firstBest (W := wgt A (ab_n A - (m + 1))) (Lf := fun p => aLM A m (u ||| 1 * 2 ^ p)) hA nn g6 hu (fun p hp => by rw [hg2]; exact jw g g6 p hp) (fun p hp hb => by
        have := pcn_add hb (ab_n A)
        rw [if_pos hp, hpc] at this
        rw [jl _ (tb_lt hu hp), this, show ab_n A - (g + 1) = m from by omega]) (fun p => by
        have := aVal_le hA (m := m) (u := u) (p := p) (by omega)
        unfold aVal at this
        omega)) (by decide) ?_
      rintro _ _ ⟨rfl, rfl⟩
      obtain ⟨q, q1, q2, q3⟩ := aFb_ex (A := A) (m := m) (u := u) (by omega)
      have q1' : fbV (fun p => wgt A (ab_n A - (m + 1)) p + aLM A m (u ||| 1 * 2 ^ p)) u (ab_n A) = some q := q1
      rw [q1']
      refine g_X0_findBest_111 (by decide) ?_
      rw [if_pos ((xv_in (by omega)).mpr g6), if_pos ((xv_in (by omega)).mpr g6), xv_clamp (by omega), xw_eq, show oI (some q) = Int32.ofNat q from rfl, show Int32.ofNat g + 1 = Int32.ofNat (g + 1) from xv_add g 1]
      have e3 : Int32.ofNat u ||| ((1 : Int32) <<< (Int32.ofNat q &&& 31)) = Int32.ofNat (u ||| 1 * 2 ^ q) := by simp (disch := omega) only [xl_0, xl_1, xl_2, xl_3, xl_4, xl_5, xl_6, xl_7, xl_8, xl_9, xl_10, xl_15, xl_18, xl_24, xl_31, xl_32, xl_36, xl_40, xl_48, xl_63, xl_64, xl_144, xl_250, xl_320, xl_720, xl_721, xl_1000, xl_1023, xl_1024, xv_lt, xv_eq, xv_in, xv_clamp, xv_add, xv_mul, xv_dec, xv_div, xv_mod, xv_m1, xv_m1', xv_and, xv_or, xv_shl, xv_shr, xv_bit0, xv_bit1]
      rw [e3]
      have hpa : aPath A (ab_n A - g) u = q :: aPath A m (u ||| 1 * 2 ^ q) := by
        rw [hm]
        show (match aFb A m u with
          | none => []
          | some q => q :: aPath A m (u ||| 1 * 2 ^ q)) = _
        rw [q1]
      have hpc' := pcn_add q3 (ab_n A)
      rw [if_pos q2, hpc] at hpc'
      refine K _ (tb_lt hu q2) hpc' (fun k => ?_) _ (xsm_xw (Or.inr (Or.inr rfl)) hJ) (fun h hh p hp => by rw [xw_ne1 (by decide)]; exact jw h hh p hp) (fun v hv => by rw [xw_ne1 (by decide)]; exact jl v hv) ?_
      · have := hpath (k + 1)
        rw [hpa] at this
        rw [show g + 1 + k = g + (k + 1) from by omega, this, show ab_n A - (g + 1) = m from by omega]; rfl
      · intro k hk
        by_cases e : k = g
        · have := hpath 0
          rw [hpa] at this
          rw [e, xw_eq, show g = g + 0 from rfl, this]; rfl
        · rw [xw_ne2 e]; exact jp k (by omega)
    · intro u hu hpc hpath J hJ jw jl jp
      refine g_X0_findBest_80 (by decide) ?_
      have nn : J 10 0 = Int32.ofNat (ab_n A) := (hJ _ _ (by unfold scrB; omega)).trans hX.1.1
      rw [nn, if_neg (fun q => Nat.lt_irrefl _ ((xv_lt (by omega) (by omega)).mp q))]
      refine ⟨rfl, J, rfl, hJ, ?_, jp⟩
      have := jl 0 hpos
      rw [pcn_0] at this
      exact this
  -- the least means, from all places taken down to none
  have k28 : ∀ u, u < 2 ^ ab_n A → ∀ J : xI, xsm scrB I J → (∀ g, g < 6 → ∀ p, p < ab_n A → J 51 (g * 6 + p) = Int32.ofNat (wgt A g p)) → (∀ v, u < v → v < 2 ^ ab_n A → J 52 v = Int32.ofNat (aLM A (ab_n A - pcn v (ab_n A)) v)) → h_X0_findBest_28 3 (qN scrB I L z (fun J => J 52 0 = Int32.ofNat (aLM A (ab_n A) 0) ∧ ∀ g, g < ab_n A → J 53 g = Int32.ofNat (gd (aPath A (ab_n A) 0) g))) (0, 0) J L z (Int32.ofNat (2 ^ ab_n A - 1)) (Int32.ofNat u) := by
    have next : ∀ u, u < 2 ^ ab_n A → (∀ J : xI, xsm scrB I J → (∀ g, g < 6 → ∀ p, p < ab_n A → J 51 (g * 6 + p) = Int32.ofNat (wgt A g p)) → (∀ v, u ≤ v → v < 2 ^ ab_n A → J 52 v = Int32.ofNat (aLM A (ab_n A - pcn v (ab_n A)) v)) → h_X0_findBest_28 3 (qN scrB I L z (fun J => J 52 0 = Int32.ofNat (aLM A (ab_n A) 0) ∧ ∀ g, g < ab_n A → J 53 g = Int32.ofNat (gd (aPath A (ab_n A) 0) g))) (0, 0) J L z (Int32.ofNat (2 ^ ab_n A - 1)) (Int32.ofNat u + (-1 : Int32))) → ∀ J : xI, xsm scrB I J → (∀ g, g < 6 → ∀ p, p < ab_n A → J 51 (g * 6 + p) = Int32.ofNat (wgt A g p)) → (∀ v, u < v → v < 2 ^ ab_n A → J 52 v = Int32.ofNat (aLM A (ab_n A - pcn v (ab_n A)) v)) → h_X0_findBest_28 3 (qN scrB I L z (fun J => J 52 0 = Int32.ofNat (aLM A (ab_n A) 0) ∧ ∀ g, g < ab_n A → J 53 g = Int32.ofNat (gd (aPath A (ab_n A) 0) g))) (0, 0) J L z (Int32.ofNat (2 ^ ab_n A - 1)) (Int32.ofNat u) := by
      intro u hu K J hJ jw jl
      refine g_X0_findBest_28 (by decide) ?_
      have nn : J 10 0 = Int32.ofNat (ab_n A) := (hJ _ _ (by unfold scrB; omega)).trans hX.1.1
      have u64 : u < 64 := by omega
      rw [if_neg (xv_neg (by omega)), f_bitCount u64, pcn_top hu 6 h6, nn]
      have hstore : ∀ w : Nat, w = aLM A (ab_n A - pcn u (ab_n A)) u → h_X0_findBest_28 3 (qN scrB I L z (fun J => J 52 0 = Int32.ofNat (aLM A (ab_n A) 0) ∧ ∀ g, g < ab_n A → J 53 g = Int32.ofNat (gd (aPath A (ab_n A) 0) g))) (0, 0) (xw J 52 u (Int32.ofNat w)) L z (Int32.ofNat (2 ^ ab_n A - 1)) (Int32.ofNat u + (-1 : Int32)) := by
        intro w hw
        refine K _ (xsm_xw (Or.inr (Or.inl rfl)) hJ) (fun h hh p hp => by rw [xw_ne1 (by decide)]; exact jw h hh p hp) ?_
        intro v hv hv2
        by_cases e : v = u
        · rw [e, xw_eq, hw]
        · rw [xw_ne2 e]; exact jl v (by omega) hv2
      have hpl := pcn_le u (ab_n A)
      by_cases c : pcn u (ab_n A) < ab_n A
      · rw [if_pos ((xv_lt (by omega) (by omega)).mpr c)]
        obtain ⟨m, hm⟩ : ∃ m, ab_n A - pcn u (ab_n A) = m + 1 := ⟨ab_n A - pcn u (ab_n A) - 1, by omega⟩
        have hg2 : ab_n A - (m + 1) = pcn u (ab_n A) := by omega
        refine xuse (t_firstBest (W := wgt A (ab_n A - (m + 1))) (Lf := fun p => aLM A m (u ||| 1 * 2 ^ p)) hA nn (by omega) hu (fun p hp => by rw [hg2]; exact jw _ (by omega) p hp) (fun p hp hb => by
          have := pcn_add hb (ab_n A)
          rw [if_pos hp] at this
          rw [jl _ (or_gt hb) (tb_lt hu hp), this, show ab_n A - (pcn u (ab_n A) + 1) = m from by omega]) (fun p => by
          have := aVal_le hA (m := m) (u := u) (p := p) (by omega)
          unfold aVal at this
          omega)) (by decide) ?_
        rintro _ _ ⟨rfl, rfl⟩
        obtain ⟨q, q1, q2, q3⟩ := aFb_ex (A := A) (m := m) (u := u) c
        have q1' : fbV (fun p => wgt A (ab_n A - (m + 1)) p + aLM A m (u ||| 1 * 2 ^ p)) u (ab_n A) = some q := q1
        rw [q1', show oI (some q) = Int32.ofNat q from rfl]
        refine g_X0_findBest_66 (by decide) ?_
        have i1 : pcn u (ab_n A) * 6 + q < 36 := by omega
        have i2 : u ||| 1 * 2 ^ q < 64 := Nat.lt_of_lt_of_le (tb_lt hu q2) hp64
        have v1 := jw (pcn u (ab_n A)) (by omega) q q2
        have hpc' := pcn_add q3 (ab_n A)
        rw [if_pos q2] at hpc'
        have v2 := jl _ (or_gt q3) (tb_lt hu q2)
        rw [hpc', show ab_n A - (pcn u (ab_n A) + 1) = m from by omega] at v2
        have ix : Int32.ofNat (pcn u (ab_n A)) * 6 + Int32.ofNat q = Int32.ofNat (pcn u (ab_n A) * 6 + q) := by rw [show (6 : Int32) = Int32.ofNat 6 from rfl, xv_mul, xv_add]
        have iy : Int32.ofNat u ||| (1 <<< (Int32.ofNat q &&& 31)) = Int32.ofNat (u ||| 1 * 2 ^ q) := by simp (disch := omega) only [xl_0, xl_1, xl_2, xl_3, xl_4, xl_5, xl_6, xl_7, xl_8, xl_9, xl_10, xl_15, xl_18, xl_24, xl_31, xl_32, xl_36, xl_40, xl_48, xl_63, xl_64, xl_144, xl_250, xl_320, xl_720, xl_721, xl_1000, xl_1023, xl_1024, xv_lt, xv_eq, xv_in, xv_clamp, xv_add, xv_mul, xv_dec, xv_div, xv_mod, xv_m1, xv_m1', xv_and, xv_or, xv_shl, xv_shr, xv_bit0, xv_bit1]
        rw [ix, iy, if_neg (xv_neg (by omega)), if_pos (show Int32.ofNat (pcn u (ab_n A) * 6 + q) < (36 : Int32) from (xv_lt (b := 36) (by omega) (by decide)).mpr i1), if_neg (xv_neg (by omega)), if_pos (show Int32.ofNat (u ||| 1 * 2 ^ q) < (64 : Int32) from (xv_lt (b := 64) (by omega) (by decide)).mpr i2), if_pos ((xv_in (by omega)).mpr i1), if_pos ((xv_in (by omega)).mpr i2), if_pos ((xv_in (by omega)).mpr u64), xv_clamp (by omega), xv_clamp (by omega), xv_clamp (by omega), v1, v2, xv_add]
        refine hstore _ ?_
        rw [hm, aLM_s, q1]
        show _ = wgt A (ab_n A - (m + 1)) q + aLM A m (u ||| 1 * 2 ^ q)
        rw [hg2]
      · rw [if_neg (fun x => c ((xv_lt (by omega) (by omega)).mp x)), if_pos ((xv_in (by omega)).mpr u64), xv_clamp (by omega)]
        refine hstore 0 ?_
        rw [show ab_n A - pcn u (ab_n A) = 0 from by omega]; rfl
    intro u
    induction u with
    | zero =>
      intro hu
      refine next 0 hu ?_
      intro J hJ jw jl
      refine g_X0_findBest_28 (by decide) ?_
      rw [if_pos (by decide)]
      exact k80 _ 0 (Nat.zero_le _) 0 hpos (pcn_0 _) (fun k => by rw [Nat.zero_add]; rfl) J hJ jw (fun v hv => jl v (Nat.zero_le _) hv) (fun k hk => absurd hk (Nat.not_lt_zero _))
    | succ u ih =>
      intro hu
      refine next (u + 1) hu ?_
      intro J hJ jw jl
      rw [show Int32.ofNat (u + 1) + (-1 : Int32) = Int32.ofNat u from xv_dec (a := u + 1) (b := 1) (by omega)]
      exact ih (by omega) J hJ jw (fun v hv hv2 => jl v (by omega) hv2)
  exact k28 (2 ^ ab_n A - 1) (by omega) J0 hJ0 w0 (fun v a b => by omega)
/-- the best so far in the reference's search -/
def bUp (o : Option (Nat × List Nat)) (v : Nat) (l : List Nat) : Option (Nat × List Nat) := match o with
  | none => some (v, l)
  | some (v0, l0) => if v < v0 then some (v, l) else some (v0, l0)
def xBM (n : Nat) (o : Option (Nat × List Nat)) (J : xI) : Prop := match o with
  | none => J 66 39 = -1
  | some (v, l) => J 66 39 = Int32.ofNat v ∧ v < 100000 ∧ ∀ k, k < n → J 110 k = Int32.ofNat (gd l k)
theorem xBM_congr {n : Nat} {o : Option (Nat × List Nat)} {J K : xI} (h : K 66 39 = J 66 39) (h2 : ∀ k, K 110 k = J 110 k) (q : xBM n o J) : xBM n o K := by
  cases o with
  | none => exact h.trans q
  | some p => exact ⟨h.trans q.1, q.2.1, fun k hk => (h2 k).trans (q.2.2 k hk)⟩
def scrS : Nat → Nat → Prop := fun o k => (o = 66 ∧ k = 39) ∨ o = 109 ∨ o = 110
theorem xTM_S {I J : xI} {A : xAb} (h : xsm scrS I J) (q : xTM I 66 A) : xTM J 66 A := xTM_sm h (by unfold scrS; omega) (fun o a b k => by unfold scrS; omega) q
theorem xRef_S {I J : xI} {A : xAb} (h : xsm scrS I J) (q : xRef A I) : xRef A J := by
  obtain ⟨q1, q2, ix, q3⟩ := q
  refine ⟨xRows_codes q1 (h _ _ (by unfold scrS; omega)) (fun k => h _ _ (by unfold scrS; omega)), (h _ _ (by unfold scrS; omega)).trans q2, ix, fun j hj => ?_⟩
  obtain ⟨a, b, c⟩ := q3 j hj
  exact ⟨a, b, (h _ _ (by unfold scrS; omega)).trans c⟩
theorem t_seekBest {A : xAb} {L : xL} {z : Bool × Bool × Nat} (hA : abOK A) : ∀ m g, g + m = ab_n A → ∀ (pre : List Nat) (u sum : Nat) (o : Option (Nat × List Nat)) (I : xI), pre.length = g → u < 2 ^ ab_n A → pcn u (ab_n A) = g → sum ≤ g * 6480 → xTM I 66 A → xRef A I → (∀ k, k < g → I 109 k = Int32.ofNat (gd pre k)) → xBM (ab_n A) o I →
    xCd (m + 3) 269 [.ref 66, .int (Int32.ofNat g), .int (Int32.ofNat u), .int (Int32.ofNat sum)] (xS I L z) (qN scrS I L z (fun J => xBM (ab_n A) (bUp o (sum + aLM A m u) (pre ++ aPath A m u)) J ∧ ∀ k, k < g → J 109 k = Int32.ofNat (gd pre k))) := by
  have h6 := hA.1.2
  have hp64 : 2 ^ ab_n A ≤ 64 := Nat.pow_le_pow_right (show 0 < 2 by decide) h6
  intro m
  induction m with
  | zero =>
    intro g hg pre u sum o I h1 hu hpc hsum hM hR hh hB
    refine c_X9_seekBest (g_X9_seekBest_0 (by decide) ?_)
    have nn := hM.1.1
    have e : g = ab_n A := by omega
    subst e
    rw [nn, if_pos rfl]
    have cp : xCd 2 294 [.ref 109, .ref 110] (xS (xw I 66 39 (Int32.ofNat sum)) L z) (fun r τ => xEX k_X9_seekBest 0 (xCd 2) (qN scrS I L z (fun J => xBM (ab_n A) (some (sum, pre)) J ∧ ∀ k, k < ab_n A → J 109 k = Int32.ofNat (gd pre k))) 40 [some (.ref 66), some (.int (Int32.ofNat (ab_n A))), some (.int (Int32.ofNat u)), some (.int (Int32.ofNat sum)), none] (r.toList ++ []) τ (0, 0)) := by
      refine xuse (s_X9_copied (a0 := 109) (a1 := 110) (n := 6) rfl rfl rfl rfl rfl (by decide) rfl rfl (by decide)) (by decide) ?_
      rintro _ _ ⟨rfl, rfl⟩
      refine g_X9_seekBest_40 (by decide) ⟨rfl, _, rfl, ?_, ⟨?_, ?_, ?_⟩, ?_⟩
      · intro o k hs
        unfold xcop
        rw [if_neg (fun q => hs (Or.inr (Or.inr q.1))), xw_ne (fun q => hs (Or.inl q))]
      · unfold xcop
        rw [if_neg (fun q => absurd q.1 (by decide)), xw_eq]
      · omega
      · intro k hk
        unfold xcop
        rw [if_pos ⟨rfl, by omega⟩, xw_ne1 (by decide)]
        exact hh k (by omega)
      · intro k hk
        unfold xcop
        rw [if_neg (fun q => absurd q.1 (by decide)), xw_ne1 (by decide)]
        exact hh k hk
    have hz : sum + aLM A 0 u = sum := rfl
    have hpth : pre ++ aPath A 0 u = pre := List.append_nil _
    rw [hz, hpth]
    cases o with
    | none =>
      rw [if_pos (show I 66 39 = (-1 : Int32) from hB)]
      exact cp
    | some w =>
      obtain ⟨v0, l0⟩ := w
      obtain ⟨b1, b2, b3⟩ := hB
      have nv : ¬ I 66 39 = (-1 : Int32) := fun x => by
        have := xv_m1 (a := v0) (b := 1) (by omega) (by decide) (by decide)
        rw [b1, show (-1 : Int32) = -(Int32.ofNat 1) from rfl, this] at x
        exact x
      rw [if_neg nv, b1]
      show (if Int32.ofNat sum < Int32.ofNat v0 then _ else _)
      by_cases c : sum < v0
      · have eu : bUp (some (v0, l0)) sum pre = some (sum, pre) := if_pos c
        rw [if_pos ((xv_lt (by omega) (by omega)).mpr c), eu]
        exact cp
      · have eu : bUp (some (v0, l0)) sum pre = some (v0, l0) := if_neg c
        rw [if_neg (fun x => c ((xv_lt (by omega) (by omega)).mp x)), eu]
        exact g_X9_seekBest_40 (by decide) ⟨rfl, I, rfl, xsm_refl _ _, ⟨b1, b2, b3⟩, hh⟩
  | succ m ih =>
    intro g hg pre u sum o I h1 hu hpc hsum hM hR hh hB
    refine c_X9_seekBest (g_X9_seekBest_0 (by omega) ?_)
    have nn := hM.1.1
    rw [nn, if_neg (fun q => by have := (xv_eq (by omega) (by omega)).mp q; omega)]
    have g6 : g < 6 := by omega
    have hg2 : ab_n A - (m + 1) = g := by omega
    have key : ∀ p, p ≤ ab_n A → ∀ J : xI, xsm scrS I J → (∀ k, k < g → J 109 k = Int32.ofNat (gd pre k)) → xBM (ab_n A) (match fbV (aVal A m u) u p with
        | none => o
        | some q => bUp o (sum + aVal A m u q) (pre ++ q :: aPath A m (u ||| 1 * 2 ^ q))) J → h_X9_seekBest_44 (m + 3) (qN scrS I L z (fun J => xBM (ab_n A) (bUp o (sum + aLM A (m + 1) u) (pre ++ aPath A (m + 1) u)) J ∧ ∀ k, k < g → J 109 k = Int32.ofNat (gd pre k))) (0, 0) J L z (Int32.ofNat g) (Int32.ofNat u) (Int32.ofNat sum) (Int32.ofNat p) := by
      refine xcount _ (ab_n A) ?_ ?_
      · intro p hp K J hJ j1 j2
        refine g_X9_seekBest_44 (by omega) ?_
        have hM' := xTM_S hJ hM
        have hR' := xRef_S hJ hR
        have nn' := hM'.1.1
        rw [nn', if_pos ((xv_lt (by omega) (by omega)).mpr hp)]
        simp only [fbV] at K
        by_cases e : u.testBit p = true
        · rw [if_pos e] at K
          rw [if_pos ((has_iff (by omega) (by omega)).mpr e)]
          refine g_X9_seekBest_99 (by omega) ?_
          rw [show Int32.ofNat p + 1 = Int32.ofNat (p + 1) from xv_add p 1]
          exact K J hJ j1 j2
        · have e0 : u.testBit p = false := by cases c : u.testBit p with | true => exact absurd c e | false => rfl
          rw [if_neg e] at K
          rw [if_neg (fun x => e ((has_iff (by omega) (by omega)).mp x)), if_pos ((xv_in (by omega)).mpr g6), xv_clamp (by omega)]
          have hJ1 : xsm scrS I (xw J 109 g (Int32.ofNat p)) := xsm_xw (Or.inr (Or.inl rfl)) hJ
          have hmd : (xw J 109 g (Int32.ofNat p)) 93 g = Int32.ofNat (ab_mind A g) := by rw [xw_ne1 (by decide)]; exact hM'.2.2.2.2.2.1 g g6
          rw [hmd]
          refine xuse (t_mindM hA (xTM_S hJ1 hM) (xRef_S hJ1 hR) g6 hp) (by omega) ?_
          rintro _ _ ⟨rfl, rfl⟩
          refine g_X9_seekBest_94 (by omega) ?_
          have a1 : Int32.ofNat g + 1 = Int32.ofNat (g + 1) := xv_add g 1
          have a2 : Int32.ofNat u ||| (1 <<< (Int32.ofNat p &&& 31)) = Int32.ofNat (u ||| 1 * 2 ^ p) := by simp (disch := omega) only [xl_0, xl_1, xl_2, xl_3, xl_4, xl_5, xl_6, xl_7, xl_8, xl_9, xl_10, xl_15, xl_18, xl_24, xl_31, xl_32, xl_36, xl_40, xl_48, xl_63, xl_64, xl_144, xl_250, xl_320, xl_720, xl_721, xl_1000, xl_1023, xl_1024, xv_lt, xv_eq, xv_in, xv_clamp, xv_add, xv_mul, xv_dec, xv_div, xv_mod, xv_m1, xv_m1', xv_and, xv_or, xv_shl, xv_shr, xv_bit0, xv_bit1]
          have a3 : Int32.ofNat sum + Int32.ofNat (ab_mind A g) * Int32.ofNat (aMd A g p) = Int32.ofNat (sum + wgt A g p) := by rw [xv_mul, xv_add]; rfl
          rw [a1, a2, a3]
          have hw := wgt_le hA (g := g) (p := p) g6
          have hpc' := pcn_add e0 (ab_n A)
          rw [if_pos hp, hpc] at hpc'
          have hsb := ih (g + 1) (by omega) (pre ++ [p]) (u ||| 1 * 2 ^ p) (sum + wgt A g p) _ (xw J 109 g (Int32.ofNat p)) (by rw [List.length_append]; simp [h1]) (tb_lt hu hp) hpc' (by omega) (xTM_S hJ1 hM) (xRef_S hJ1 hR) (by
            intro k hk
            rw [gd_app]
            by_cases c : k = g
            · rw [c, xw_eq, if_neg (by omega), show g - pre.length = 0 from by omega]; rfl
            · rw [xw_ne2 c, if_pos (by omega)]; exact j1 k (by omega)) (xBM_congr (xw_ne1 (by decide)) (fun k => xw_ne1 (by decide)) j2)
          refine xuse hsb (Nat.le_refl _) ?_
          clear hsb
          rintro _ _ ⟨rfl, J', rfl, k0, k1, k2⟩
          refine g_X9_seekBest_99 (by omega) ?_
          rw [show Int32.ofNat p + 1 = Int32.ofNat (p + 1) from xv_add p 1]
          refine K J' (xsm_trans hJ1 k0) (fun k hk => by rw [k2 k (by omega), gd_app, if_pos (by omega)]) ?_
          have ev : sum + wgt A g p + aLM A m (u ||| 1 * 2 ^ p) = sum + aVal A m u p := by
            unfold aVal; rw [hg2]; omega
          rw [ev, List.append_assoc] at k1
          have ea : [p] ++ aPath A m (u ||| 1 * 2 ^ p) = p :: aPath A m (u ||| 1 * 2 ^ p) := rfl
          rw [ea] at k1
          cases c : fbV (aVal A m u) u p with
          | none =>
            rw [c] at k1
            exact k1
          | some q =>
            rw [c] at k1
            simp only at k1 ⊢
            by_cases d : aVal A m u p < aVal A m u q
            · rw [if_pos d]
              simp only
              cases o with
              | none =>
                have : bUp (bUp none (sum + aVal A m u q) (pre ++ q :: aPath A m (u ||| 1 * 2 ^ q))) (sum + aVal A m u p) (pre ++ p :: aPath A m (u ||| 1 * 2 ^ p)) = some (sum + aVal A m u p, pre ++ p :: aPath A m (u ||| 1 * 2 ^ p)) := if_pos (show sum + aVal A m u p < sum + aVal A m u q by omega)
                rw [this] at k1
                exact k1
              | some w =>
                obtain ⟨v0, l0⟩ := w
                by_cases c1 : sum + aVal A m u q < v0
                · have t1 : bUp (some (v0, l0)) (sum + aVal A m u q) (pre ++ q :: aPath A m (u ||| 1 * 2 ^ q)) = some (sum + aVal A m u q, pre ++ q :: aPath A m (u ||| 1 * 2 ^ q)) := if_pos c1
                  have t2 : bUp (some (sum + aVal A m u q, pre ++ q :: aPath A m (u ||| 1 * 2 ^ q))) (sum + aVal A m u p) (pre ++ p :: aPath A m (u ||| 1 * 2 ^ p)) = some (sum + aVal A m u p, pre ++ p :: aPath A m (u ||| 1 * 2 ^ p)) := if_pos (by omega)
                  have t3 : bUp (some (v0, l0)) (sum + aVal A m u p) (pre ++ p :: aPath A m (u ||| 1 * 2 ^ p)) = some (sum + aVal A m u p, pre ++ p :: aPath A m (u ||| 1 * 2 ^ p)) := if_pos (by omega)
                  rw [t1, t2] at k1
                  rw [t3]; exact k1
                · have t1 : bUp (some (v0, l0)) (sum + aVal A m u q) (pre ++ q :: aPath A m (u ||| 1 * 2 ^ q)) = some (v0, l0) := if_neg c1
                  rw [t1] at k1
                  exact k1
            · rw [if_neg d]
              simp only
              have : bUp (bUp o (sum + aVal A m u q) (pre ++ q :: aPath A m (u ||| 1 * 2 ^ q))) (sum + aVal A m u p) (pre ++ p :: aPath A m (u ||| 1 * 2 ^ p)) = bUp o (sum + aVal A m u q) (pre ++ q :: aPath A m (u ||| 1 * 2 ^ q)) := by
                cases o with
                | none => exact if_neg (show ¬ sum + aVal A m u p < sum + aVal A m u q by omega)
                | some w =>
                  obtain ⟨v0, l0⟩ := w
                  by_cases c1 : sum + aVal A m u q < v0
                  · have t1 : bUp (some (v0, l0)) (sum + aVal A m u q) (pre ++ q :: aPath A m (u ||| 1 * 2 ^ q)) = some (sum + aVal A m u q, pre ++ q :: aPath A m (u ||| 1 * 2 ^ q)) := if_pos c1
                    rw [t1]
                    exact if_neg (by omega)
                  · have t1 : bUp (some (v0, l0)) (sum + aVal A m u q) (pre ++ q :: aPath A m (u ||| 1 * 2 ^ q)) = some (v0, l0) := if_neg c1
                    rw [t1]
                    exact if_neg (by omega)
              rw [this] at k1
              exact k1
      · intro J hJ j1 j2
        refine g_X9_seekBest_44 (by omega) ?_
        have nn' := (xTM_S hJ hM).1.1
        rw [nn', if_neg (fun q => Nat.lt_irrefl _ ((xv_lt (by omega) (by omega)).mp q))]
        refine ⟨rfl, J, rfl, hJ, ?_, j1⟩
        obtain ⟨q, q1, _, _⟩ := aFb_ex (A := A) (m := m) (u := u) (by omega)
        have q1' : fbV (aVal A m u) u (ab_n A) = some q := q1
        rw [q1'] at j2
        have e1 : aLM A (m + 1) u = aVal A m u q := by rw [aLM_s, q1]
        have e2 : aPath A (m + 1) u = q :: aPath A m (u ||| 1 * 2 ^ q) := by
          show (match aFb A m u with
            | none => []
            | some q => q :: aPath A m (u ||| 1 * 2 ^ q)) = _
          rw [q1]
        rw [e1, e2]
        exact j2
    exact key 0 (Nat.zero_le _) I (xsm_refl _ _) hh hB
theorem t_findBestM {A : xAb} {I : xI} {L : xL} {z : Bool × Bool × Nat} (hA : abOK A) (hM : xTM I 66 A) (hR : xRef A I) : xCd 10 270 [.ref 66] (xS I L z) (qN scrS I L z (fun J => J 66 39 = Int32.ofNat (aLM A (ab_n A) 0) ∧ ∀ k, k < ab_n A → J 110 k = Int32.ofNat (gd (aPath A (ab_n A) 0) k))) := by
  have h6 := hA.1.2
  refine c_X9_findBest (g_X9_findBest_0 (by decide) ?_)
  have hJ : xsm scrS I (xw I 66 39 (-1 : Int32)) := xsm_xw (Or.inl ⟨rfl, rfl⟩) (xsm_refl _ _)
  refine xuse (t_seekBest hA (ab_n A) 0 (by omega) [] 0 0 none _ rfl (Nat.two_pow_pos _) (pcn_0 _) (Nat.zero_le _) (xTM_S hJ hM) (xRef_S hJ hR) (fun k hk => absurd hk (Nat.not_lt_zero _)) (xw_eq _ _ _ _)) (by omega) ?_
  rintro _ _ ⟨rfl, J, rfl, k0, ⟨k1, k2, k3⟩, _⟩
  refine g_X9_findBest_12 (by decide) ⟨rfl, J, rfl, xsm_trans hJ k0, ?_, k3⟩
  rw [k1, Nat.zero_add]
theorem pr_best (a1 : Int32) : xPq 163 277 [.int a1] := by
  intro c A I L z hc h
  have hA := h.1.1
  have h6 := hA.1.2
  have x1 : p_X6_hasPlace I L a1 ↔ (0 ≤ a1.toInt ∧ a1.toInt < (ab_n A : Int)) := xp_hasPlace h.1.2.1.1.1 hA.1.2
  have m1 : ∀ J : xI, xTM J 66 A → (p_X9_isPlace J L (Int32.toInt64 a1) ↔ (0 ≤ a1.toInt ∧ a1.toInt < (ab_n A : Int))) := fun J q => xp_isPlace q.1.1 hA.1.1 hA.1.2
  by_cases e : a1 = -1 ∨ (0 ≤ a1.toInt ∧ a1.toInt < (ab_n A : Int))
  · refine pr_q h 0 (if a1 = -1 then Int32.ofNat (aLM A (ab_n A) 0) else Int32.ofNat (gd (aPath A (ab_n A) 0) a1.toNatClampNeg)) ?_ ?_
    · refine c_X8_best (d := 29) (g_X8_best_0 (by decide) ?_)
      have body : xCd 29 114 [.ref 37] (xS I L z) (fun r τ => xEX k_X8_best 1 (xCd 29) (oX c A I L z 0 (if a1 = -1 then Int32.ofNat (aLM A (ab_n A) 0) else Int32.ofNat (gd (aPath A (ab_n A) 0) a1.toNatClampNeg))) 30 [some (.ref 9), some (.int a1)] (r.toList ++ []) τ (0, 0)) := by
        refine u_refresh h (by decide) ?_
        intro J t hJ hF hX hs ha t1 t2
        refine g_X8_best_30 (by decide) ?_
        refine xuse (t_findBestX hA hX hF.2.2.2) (by decide) ?_
        rintro _ _ ⟨rfl, K, rfl, k0, k1, k2⟩
        refine g_X8_best_37 (by decide) ?_
        have hIK : xsm scrX I K := xsm_trans (xsm_mono hJ scrW_X) (xsm_mono k0 (fun o k e => by unfold scrB at e; unfold scrX; omega))
        have hcK : xCache A K := xCache_of (xFresh_sm k0 (fun o k e => by unfold scrB at e; unfold noC; omega) hF)
        have htK : xTal t K := xTal_sm k0 (fun o k e => by unfold scrB at e; omega) t2
        by_cases q : a1 = -1
        · rw [if_pos q, if_pos q]
          have : f_X0_leastMean K L = Int32.ofNat (aLM A (ab_n A) 0) := k1
          rw [this]
          exact oX_ok hIK hcK htK (by omega)
        · rcases e with e | e
          · exact absurd e q
          · obtain ⟨g, hg, rfl⟩ := xr_nat e
            rw [if_neg q, if_neg q]
            have : f_X0_bestPlaceOf K L (Int32.ofNat g) = Int32.ofNat (gd (aPath A (ab_n A) 0) g) := by
              have g6 : g < 6 := by omega
              unfold f_X0_bestPlaceOf
              simp (disch := omega) only [xl_0, xl_1, xl_2, xl_3, xl_4, xl_5, xl_6, xl_7, xl_8, xl_9, xl_10, xl_15, xl_18, xl_24, xl_31, xl_32, xl_36, xl_40, xl_48, xl_63, xl_64, xl_144, xl_250, xl_320, xl_720, xl_721, xl_1000, xl_1023, xl_1024, xv_lt, xv_eq, xv_in, xv_clamp, xv_add, xv_mul, xv_dec, xv_div, xv_mod, xv_m1, xv_m1', xv_and, xv_or, xv_shl, xv_shr, xv_bit0, xv_bit1, Nat.not_lt_zero, g6, if_true, if_false, k2 g hg]
            rw [this, xv_clamp (by omega)]
            exact oX_ok hIK hcK htK (by omega)
      by_cases q : a1 = -1
      · rw [if_pos q]; exact body
      · rcases e with e | e
        · exact absurd e q
        · rw [if_neg q, if_pos (x1.mpr e)]; exact body
    · intro J hJ hM
      refine c_X9_best (d := 29) (g_X9_best_0 (by decide) ?_)
      have body : xCd 29 244 [.ref 66] (xS J L z) (fun r τ => xEX k_X9_best 1 (xCd 29) (oM J L z 0 (if a1 = -1 then Int32.ofNat (aLM A (ab_n A) 0) else Int32.ofNat (gd (aPath A (ab_n A) 0) a1.toNatClampNeg))) 25 [some (.ref 66), some (.int a1)] (r.toList ++ []) τ (0, 0)) := by
        refine u_findP hA hM (by decide) ?_
        intro K hK hR hM'
        refine g_X9_best_25 (by decide) ?_
        refine xuse (t_findBestM hA hM' hR) (by decide) ?_
        rintro _ _ ⟨rfl, K2, rfl, k0, k1, k2⟩
        refine g_X9_best_29 (by decide) ?_
        have hJK : xsm scrM J K2 := xsm_trans (xsm_mono hK scrF_M) (xsm_mono k0 (fun o k e => by unfold scrS at e; unfold scrM; omega))
        by_cases q : a1 = -1
        · rw [if_pos q, if_pos q, k1]; exact oM_ok hJK
        · rcases e with e | e
          · exact absurd e q
          · obtain ⟨g, hg, rfl⟩ := xr_nat e
            rw [if_neg q, if_neg q, if_pos ((xv_in (by omega)).mpr (by omega)), xv_clamp (by omega), k2 g hg]
            exact oM_ok hJK
      by_cases q : a1 = -1
      · rw [if_pos q]; exact body
      · rcases e with e | e
        · exact absurd e q
        · rw [if_neg q, if_pos ((m1 J hM).mpr e)]; exact body
  · have q : ¬ a1 = -1 := fun x => e (Or.inl x)
    have q2 : ¬ (0 ≤ a1.toInt ∧ a1.toInt < (ab_n A : Int)) := fun x => e (Or.inr x)
    refine pr_q h 2 0 ?_ ?_
    · refine c_X8_best (d := 29) (g_X8_best_0 (by decide) ?_)
      rw [if_neg q, if_neg (fun x => q2 (x1.mp x))]
      exact oX_no h (by decide) (by decide)
    · intro J hJ hM
      refine c_X9_best (d := 29) (g_X9_best_0 (by decide) ?_)
      rw [if_neg q, if_neg (fun x => q2 ((m1 J hM).mp x))]
      exact oM_no (xsm_refl _ _) (by decide) (by decide)
