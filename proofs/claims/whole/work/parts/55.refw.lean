/-! the reference finds its worlds -/
def qN (S : Nat → Nat → Prop) (I : xI) (L : xL) (z : Bool × Bool × Nat) (P : xI → Prop) : xQ := fun r τ => r = none ∧ ∃ J, τ = xS J L z ∧ xsm S I J ∧ P J
def qV (S : Nat → Nat → Prop) (I : xI) (L : xL) (z : Bool × Bool × Nat) (v : Int32) (P : xI → Prop) : xQ := fun r τ => r = some (.int v) ∧ ∃ J, τ = xS J L z ∧ xsm S I J ∧ P J
def qP (I : xI) (L : xL) (z : Bool × Bool × Nat) (v : Int32) : xQ := fun r τ => r = some (.int v) ∧ τ = xS I L z
theorem g_mark {I : xI} {L : xL} {z : Bool × Bool × Nat} {s : Nat} (h : s < 6) : xisi (xS I L z) (85 + 1 + s) = true ∧ (xis (xS I L z) (85 + 1 + s) 20 && Nat.blt 8 (85 + 1 + s)) = true ∧ xlen z.2.2 (85 + 1 + s) = 4 := by
  rcases six h with rfl | rfl | rfl | rfl | rfl | rfl <;> exact ⟨rfl, rfl, rfl⟩
theorem g_known {I : xI} {L : xL} {z : Bool × Bool × Nat} {s : Nat} (h : s < 6) : xisi (xS I L z) (94 + 1 + s) = true ∧ (xis (xS I L z) (94 + 1 + s) 20 && Nat.blt 8 (94 + 1 + s)) = true ∧ xlen z.2.2 (94 + 1 + s) = 4 := by
  rcases six h with rfl | rfl | rfl | rfl | rfl | rfl <;> exact ⟨rfl, rfl, rfl⟩
theorem g_rows {I : xI} {L : xL} {z : Bool × Bool × Nat} {s : Nat} (h : s < 8) : xis (xS I L z) (70 + 1 + s) 21 = true ∧ (xis (xS I L z) (70 + 1 + s) 21 && Nat.blt 8 (70 + 1 + s)) = true ∧ xlen z.2.2 (70 + 1 + s) = 40 := by
  have hk : s = 0 ∨ s = 1 ∨ s = 2 ∨ s = 3 ∨ s = 4 ∨ s = 5 ∨ s = 6 ∨ s = 7 := by omega
  obtain rfl | rfl | rfl | rfl | rfl | rfl | rfl | rfl := hk <;> exact ⟨rfl, rfl, rfl⟩
theorem xTM_sm {S : Nat → Nat → Prop} {I J : xI} {m : Nat} {A : xAb} (h : xsm S I J) (h0 : ¬ S m 9 ∧ ¬ S m 10 ∧ ¬ S m 17 ∧ ¬ S m 20) (h1 : ∀ o, m + 17 ≤ o → o ≤ m + 36 → ∀ k, ¬ S o k) (q : xTM I m A) : xTM J m A :=
  xTM_congr (h _ _ h0.1) (h _ _ h0.2.1) (h _ _ h0.2.2.1) (h _ _ h0.2.2.2) (fun o a b k => h _ _ (h1 o a b k)) q
/-- the slots that the reference finds its worlds in -/
def scrF : Nat → Nat → Prop := fun o k => (o = 66 ∧ (k = 32 ∨ k = 36)) ∨ (105 ≤ o ∧ o ≤ 108)
theorem xTM_F {I J : xI} {A : xAb} (h : xsm scrF I J) (q : xTM I 66 A) : xTM J 66 A := xTM_sm h (by unfold scrF; omega) (fun o a b k => by unfold scrF; omega) q
theorem mod_two {n i k : Nat} (hk : k < n) (hi : i < n) : (i + k) % n = if i + k < n then i + k else i + k - n := by
  by_cases e : i + k < n
  · rw [if_pos e, Nat.mod_eq_of_lt e]
  · rw [if_neg e, Nat.mod_eq_sub_mod (by omega), Nat.mod_eq_of_lt (by omega)]
theorem t_turnNow {A : xAb} {I : xI} {L : xL} {z : Bool × Bool × Nat} {k : Nat} (hA : abOK A) (hM : xTM I 66 A) (hk : k < ab_n A) : xCd 1 239 [.ref 66, .int (Int32.ofNat k)] (xS I L z) (qN (xAt 106) I L z (fun J => ∀ q, q < ab_n A → J 106 q = Int32.ofNat (aRot A k q))) := by
  refine c_X9_turnNow (g_X9_turnNow_0 (Nat.zero_le _) ?_)
  have h6 := hA.1.2
  have key : ∀ i, i ≤ ab_n A → ∀ J : xI, xsm (xAt 106) I J → (∀ p, p < i → J 106 ((p + k) % ab_n A) = Int32.ofNat (ab_pour A p)) → h_X9_turnNow_2 0 (qN (xAt 106) I L z (fun J => ∀ q, q < ab_n A → J 106 q = Int32.ofNat (aRot A k q))) (0, 0) J L z (Int32.ofNat k) (Int32.ofNat i) := by
    refine xcount _ (ab_n A) ?_ ?_
    · intro i hi K J hJ j0
      refine g_X9_turnNow_2 (Nat.zero_le _) ?_
      have hM' : xTM J 66 A := xTM_sm hJ (by unfold xAt; omega) (fun o a b k => by unfold xAt; omega) hM
      have hn := hM'.1.1
      have i6 : i < 6 := by omega
      have n0 : ¬ ab_n A = 0 := by omega
      have hm : (i + k) % ab_n A < 6 := Nat.lt_of_lt_of_le (Nat.mod_lt _ (by omega)) h6
      have hv : J 83 i = Int32.ofNat (ab_pour A i) := hM'.2.1 i i6
      simp (disch := omega) only [xl_0, xl_1, xl_2, xl_3, xl_4, xl_5, xl_6, xl_7, xl_8, xl_9, xl_10, xl_15, xl_18, xl_24, xl_31, xl_32, xl_36, xl_40, xl_48, xl_63, xl_64, xl_144, xl_250, xl_320, xl_720, xl_721, xl_1000, xl_1023, xl_1024, xv_lt, xv_eq, xv_in, xv_clamp, xv_add, xv_mul, xv_dec, xv_div, xv_mod, xv_m1, xv_m1', xv_and, xv_or, xv_shl, xv_shr, xv_bit0, xv_bit1, hn, hi, i6, n0, hm, hv, if_true, if_false]
      refine K _ (xsm_xw rfl hJ) ?_
      intro p hp
      by_cases e : p = i
      · rw [e, xw_eq]
      · have m1 := mod_two hk hi
        have m2 := mod_two hk (show p < ab_n A by omega)
        rw [xw_ne2 (by rw [m1, m2]; split <;> split <;> omega)]
        exact j0 p (by omega)
    · intro J hJ j0
      refine g_X9_turnNow_2 (Nat.zero_le _) ?_
      have hM' : xTM J 66 A := xTM_sm hJ (by unfold xAt; omega) (fun o a b k => by unfold xAt; omega) hM
      have hn := hM'.1.1
      simp (disch := omega) only [xl_0, xl_1, xl_2, xl_3, xl_4, xl_5, xl_6, xl_7, xl_8, xl_9, xl_10, xl_15, xl_18, xl_24, xl_31, xl_32, xl_36, xl_40, xl_48, xl_63, xl_64, xl_144, xl_250, xl_320, xl_720, xl_721, xl_1000, xl_1023, xl_1024, xv_lt, xv_eq, xv_in, xv_clamp, xv_add, xv_mul, xv_dec, xv_div, xv_mod, xv_m1, xv_m1', xv_and, xv_or, xv_shl, xv_shr, xv_bit0, xv_bit1, hn, Nat.lt_irrefl, if_false]
      refine ⟨rfl, J, rfl, hJ, fun q hq => ?_⟩
      unfold aRot
      by_cases e : q < k
      · rw [if_pos e]
        have := j0 (q + ab_n A - k) (by omega)
        rw [mod_two hk (by omega), if_neg (by omega), show q + ab_n A - k + k - ab_n A = q from by omega] at this
        exact this
      · rw [if_neg e]
        have := j0 (q - k) (by omega)
        rw [mod_two hk (by omega), if_pos (by omega), show q - k + k = q from by omega] at this
        exact this
  exact key 0 (Nat.zero_le _) I (xsm_refl _ _) (fun p hp => absurd hp (Nat.not_lt_zero _))
theorem xv_dif : ∀ a, a < 8 → ∀ b, b < 8 → (((0 : Int32) < Int32.ofNat a - Int32.ofNat b ↔ b < a) ∧ (Int32.ofNat a - Int32.ofNat b = (0 : Int32) ↔ a = b)) := by decide
/-- the worlds of a list stand in the reference's rows -/
def xRows (n : Nat) (l : List Nat) (I : xI) : Prop := I 66 32 = Int32.ofNat l.length ∧ ∀ i, i < l.length → ∀ p, p < n → I 105 (i * 6 + p) = Int32.ofNat (wd (l.getD i 0) p)
theorem t_against {A : xAb} {I : xI} {L : xL} {z : Bool × Bool × Nat} {l : List Nat} {i : Nat} {f g : Nat → Nat} (hA : abOK A) (hM : xTM I 66 A) (hl : xRows (ab_n A) l I) (h7 : l.length ≤ 720) (hi : i < l.length) (hg : ∀ p, p < ab_n A → g p < 6) (hw : l.getD i 0 = wc g (ab_n A)) (hf : ∀ p, p < ab_n A → f p < 6) (hn : ∀ p, p < ab_n A → I 106 p = Int32.ofNat (f p)) : xCd 2 238 [.ref 66, .int (Int32.ofNat i)] (xS I L z) (fun r τ => ∃ v : Int32, r = some (.int v) ∧ τ = xS I L z ∧ (0 < v ↔ l.getD i 0 < wc f (ab_n A)) ∧ (v = 0 ↔ wc f (ab_n A) = l.getD i 0)) := by
  refine c_X9_against (g_X9_against_0 (by decide) ?_)
  have h6 := hA.1.2
  have f8 : ∀ p, p < ab_n A → f p < 8 := fun p hp => by have := hf p hp; omega
  have g8 : ∀ p, p < ab_n A → g p < 8 := fun p hp => by have := hg p hp; omega
  have key : ∀ p, p ≤ ab_n A → (∀ q, q < p → f q = g q) → h_X9_against_2 1 (fun r τ => ∃ v : Int32, r = some (.int v) ∧ τ = xS I L z ∧ (0 < v ↔ l.getD i 0 < wc f (ab_n A)) ∧ (v = 0 ↔ wc f (ab_n A) = l.getD i 0)) (0, 0) I L z (Int32.ofNat i) (Int32.ofNat p) := by
    refine xcount _ (ab_n A) ?_ ?_
    · intro p hp k he
      refine g_X9_against_2 (by decide) ?_
      have p6 : p < 6 := by omega
      have q1 : i * 6 + p < 4320 := by omega
      have q2 := hl.2 i hi p hp
      rw [hw, wd_wc h6 g8 p6, if_pos hp] at q2
      have q3 := f8 p hp
      have q4 := g8 p hp
      have nn := hM.1.1
      simp (disch := omega) only [xl_0, xl_1, xl_2, xl_3, xl_4, xl_5, xl_6, xl_7, xl_8, xl_9, xl_10, xl_15, xl_18, xl_24, xl_31, xl_32, xl_36, xl_40, xl_48, xl_63, xl_64, xl_144, xl_250, xl_320, xl_720, xl_721, xl_1000, xl_1023, xl_1024, xv_lt, xv_eq, xv_in, xv_clamp, xv_add, xv_mul, xv_dec, xv_div, xv_mod, xv_m1, xv_m1', xv_and, xv_or, xv_shl, xv_shr, xv_bit0, xv_bit1, nn, hp, p6, q1, q2, hn p hp, if_true]
      by_cases e : f p = g p
      · rw [if_pos e]
        refine k fun q hq => ?_
        by_cases c : q = p
        · rw [c]; exact e
        · exact he q (by omega)
      · rw [if_neg e]
        refine ⟨_, rfl, trivial, ?_, ?_⟩
        · rw [xl_0.symm, (xv_dif _ q3 _ q4).1, hw]
          constructor
          · intro c; exact wc_ord h6 g8 f8 hp (fun q hq => (he q hq).symm) c
          · intro c
            refine Nat.lt_of_not_le fun d => ?_
            have := wc_ord h6 f8 g8 hp he (by omega)
            omega
        · rw [xl_0.symm, (xv_dif _ q3 _ q4).2, hw]
          exact ⟨fun c => absurd c e, fun c => absurd (wc_inj h6 f8 g8 c hp) e⟩
    · intro he
      refine g_X9_against_2 (by decide) ?_
      have nn := hM.1.1
      have e : wc f (ab_n A) = wc g (ab_n A) := wc_congr _ he
      simp (disch := omega) only [xl_0, xl_1, xl_2, xl_3, xl_4, xl_5, xl_6, xl_7, xl_8, xl_9, xl_10, xl_15, xl_18, xl_24, xl_31, xl_32, xl_36, xl_40, xl_48, xl_63, xl_64, xl_144, xl_250, xl_320, xl_720, xl_721, xl_1000, xl_1023, xl_1024, xv_lt, xv_eq, xv_in, xv_clamp, xv_add, xv_mul, xv_dec, xv_div, xv_mod, xv_m1, xv_m1', xv_and, xv_or, xv_shl, xv_shr, xv_bit0, xv_bit1, nn, Nat.lt_irrefl, if_false]
      refine ⟨_, rfl, trivial, ?_, ?_⟩
      · rw [hw, e]; exact ⟨fun c => absurd c (by decide), fun c => absurd c (Nat.lt_irrefl _)⟩
      · rw [hw, e]; exact ⟨fun _ => rfl, fun _ => rfl⟩
  exact key 0 (Nat.zero_le _) (fun q hq => absurd hq (Nat.not_lt_zero _))
theorem xTM_105 {I J : xI} {A : xAb} {S : Nat → Nat → Prop} (h : xsm S I J) (hS : ∀ o k, S o k → scrF o k) (q : xTM I 66 A) : xTM J 66 A := xTM_F (xsm_mono h hS) q
theorem t_putNow {A : xAb} {I : xI} {L : xL} {z : Bool × Bool × Nat} {l : List Nat} {f : Nat → Nat} (hA : abOK A) (hM : xTM I 66 A) (hl : xRows (ab_n A) l I) (h7 : l.length < 720) (hs : srt l) (hr : ∀ w, w ∈ l → ∃ g : Nat → Nat, (∀ p, p < ab_n A → g p < 6) ∧ w = wc g (ab_n A)) (hf : ∀ p, p < ab_n A → f p < 6) (hn : ∀ p, p < ab_n A → I 106 p = Int32.ofNat (f p)) : xCd 3 240 [.ref 66] (xS I L z) (qN (fun o k => (o = 66 ∧ k = 32) ∨ o = 105) I L z (xRows (ab_n A) (insW (wc f (ab_n A)) l))) := by
  refine c_X9_putNow (g_X9_putNow_0 (by decide) ?_)
  have h6 := hA.1.2
  have nn := hM.1.1
  have f8 : ∀ p, p < ab_n A → f p < 8 := fun p hp => by have := hf p hp; omega
  have hS : ∀ o k, ((o = 66 ∧ k = 32) ∨ o = 105) → scrF o k := fun o k h => by unfold scrF; omega
  -- the rows behind it move on, and it is written
  have shift : ∀ i, i ≤ l.length → (∀ j, j < i → l.getD j 0 < wc f (ab_n A)) → (i = l.length ∨ wc f (ab_n A) < l.getD i 0) → h_X9_putNow_51 2 (qN (fun o k => (o = 66 ∧ k = 32) ∨ o = 105) I L z (xRows (ab_n A) (insW (wc f (ab_n A)) l))) (0, 0) I L z (Int32.ofNat i) (((I 66 32) * 6) - 1) := by
    intro i hi a1 a2
    have write : ∀ p, p ≤ ab_n A → ∀ J : xI, xsm (fun o k => (o = 66 ∧ k = 32) ∨ o = 105) I J → J 66 32 = Int32.ofNat l.length → (∀ k, k < i * 6 → J 105 k = I 105 k) → (∀ k, i * 6 + 6 ≤ k → k < l.length * 6 + 6 → J 105 k = I 105 (k - 6)) → (∀ q, q < p → J 105 (i * 6 + q) = Int32.ofNat (f q)) → h_X9_putNow_82 2 (qN (fun o k => (o = 66 ∧ k = 32) ∨ o = 105) I L z (xRows (ab_n A) (insW (wc f (ab_n A)) l))) (0, 0) J L z (Int32.ofNat i) (Int32.ofNat p) := by
      refine xcount _ (ab_n A) ?_ ?_
      · intro p hp K J hJ j0 j1 j2 j3
        refine g_X9_putNow_82 (by decide) ?_
        have p6 : p < 6 := by omega
        have q1 : i * 6 + p < 4320 := by omega
        have nn' : J 66 9 = Int32.ofNat (ab_n A) := (hJ _ _ (by omega)).trans nn
        have q2 : J 106 p = Int32.ofNat (f p) := (hJ _ _ (by omega)).trans (hn p hp)
        simp (disch := omega) only [xl_0, xl_1, xl_2, xl_3, xl_4, xl_5, xl_6, xl_7, xl_8, xl_9, xl_10, xl_15, xl_18, xl_24, xl_31, xl_32, xl_36, xl_40, xl_48, xl_63, xl_64, xl_144, xl_250, xl_320, xl_720, xl_721, xl_1000, xl_1023, xl_1024, xv_lt, xv_eq, xv_in, xv_clamp, xv_add, xv_mul, xv_dec, xv_div, xv_mod, xv_m1, xv_m1', xv_and, xv_or, xv_shl, xv_shr, xv_bit0, xv_bit1, nn', hp, p6, q1, q2, if_true]
        refine K _ (xsm_xw (Or.inr rfl) hJ) (by rw [xw_ne1 (by decide)]; exact j0) (fun k hk => by rw [xw_ne2 (by omega)]; exact j1 k hk) (fun k hk hk2 => by rw [xw_ne2 (by omega)]; exact j2 k hk hk2) ?_
        intro q hq
        by_cases e : q = p
        · rw [e, xw_eq]
        · rw [xw_ne2 (by omega)]; exact j3 q (by omega)
      · intro J hJ j0 j1 j2 j3
        refine g_X9_putNow_82 (by decide) ?_
        have nn' : J 66 9 = Int32.ofNat (ab_n A) := (hJ _ _ (by omega)).trans nn
        rw [nn', if_neg (fun q => Nat.lt_irrefl _ ((xv_lt (by omega) (by omega)).mp q)), j0, show Int32.ofNat l.length + 1 = Int32.ofNat (l.length + 1) from xv_add _ 1]
        have hlen : (l.take i ++ wc f (ab_n A) :: l.drop i).length = l.length + 1 := by
          rw [List.length_append, List.length_cons, List.length_take, List.length_drop]; omega
        refine ⟨rfl, _, rfl, xsm_xw (Or.inl ⟨rfl, rfl⟩) hJ, ?_, ?_⟩
        · rw [insW_at hi a1 a2, hlen, xw_eq]
        · intro k hk p hp
          rw [insW_at hi a1 a2] at hk ⊢
          rw [hlen] at hk
          rw [gd_ins k hi, xw_ne1 (by decide)]
          by_cases e1 : k < i
          · rw [if_pos e1, j1 _ (by omega)]; exact hl.2 k (by omega) p hp
          · rw [if_neg e1]
            by_cases e2 : k = i
            · rw [if_pos e2, e2, j3 p hp, wd_wc h6 f8 (by omega), if_pos hp]
            · rw [if_neg e2, j2 _ (by omega) (by omega), show k * 6 + p - 6 = (k - 1) * 6 + p from by omega]
              exact hl.2 (k - 1) (by omega) p hp
    have down : ∀ t, ∀ J : xI, xsm (fun o k => (o = 66 ∧ k = 32) ∨ o = 105) I J → i * 6 + t ≤ l.length * 6 → J 66 32 = Int32.ofNat l.length → (∀ k, k < i * 6 + t + 6 → (t = 0 → i * 6 + 6 ≤ k ∨ k < i * 6) → J 105 k = I 105 k ∨ l.length * 6 ≤ k + 6 * l.length) → (∀ k, k < i * 6 + t → J 105 k = I 105 k) → (∀ k, i * 6 + t + 6 ≤ k → k < l.length * 6 + 6 → J 105 k = I 105 (k - 6)) → h_X9_putNow_51 2 (qN (fun o k => (o = 66 ∧ k = 32) ∨ o = 105) I L z (xRows (ab_n A) (insW (wc f (ab_n A)) l))) (0, 0) J L z (Int32.ofNat i) (Int32.ofNat (i * 6 + t) - 1) := by
      intro t
      induction t with
      | zero =>
        intro J hJ ht j0 _ j1 j2
        refine g_X9_putNow_51 (by decide) ?_
        have c : Int32.ofNat (i * 6 + 0) - 1 < Int32.ofNat i * 6 := by
          rw [show Int32.ofNat i * 6 = Int32.ofNat (i * 6) from xv_mul i 6, Nat.add_zero]
          by_cases e : i * 6 = 0
          · rw [e]; decide
          · rw [show Int32.ofNat (i * 6) - 1 = Int32.ofNat (i * 6 - 1) from xv_sub (b := 1) (by omega), xv_lt (by omega) (by omega)]; omega
        rw [if_pos c]
        exact write 0 (Nat.zero_le _) J hJ j0 (fun k hk => j1 k (by omega)) (fun k a b => j2 k (by omega) b) (fun q hq => absurd hq (Nat.not_lt_zero _))
      | succ t ih =>
        intro J hJ ht j0 _ j1 j2
        refine g_X9_putNow_51 (by decide) ?_
        have e1 : Int32.ofNat (i * 6 + (t + 1)) - 1 = Int32.ofNat (i * 6 + t) := by
          rw [show Int32.ofNat (i * 6 + (t + 1)) - 1 = Int32.ofNat (i * 6 + (t + 1) - 1) from xv_sub (b := 1) (by omega)]; rfl
        rw [e1]
        have c1 : ¬ i * 6 + t < i * 6 := by omega
        have c2 : i * 6 + t < 4320 := by omega
        have c3 : i * 6 + t + 6 < 4320 := by omega
        simp (disch := omega) only [xl_0, xl_1, xl_2, xl_3, xl_4, xl_5, xl_6, xl_7, xl_8, xl_9, xl_10, xl_15, xl_18, xl_24, xl_31, xl_32, xl_36, xl_40, xl_48, xl_63, xl_64, xl_144, xl_250, xl_320, xl_720, xl_721, xl_1000, xl_1023, xl_1024, xv_lt, xv_eq, xv_in, xv_clamp, xv_add, xv_mul, xv_dec, xv_div, xv_mod, xv_m1, xv_m1', xv_and, xv_or, xv_shl, xv_shr, xv_bit0, xv_bit1, c1, c2, c3, if_true, if_false, j1 (i * 6 + t) (by omega)]
        have e2 : Int32.ofNat (i * 6 + t) + -(Int32.ofNat 1) = Int32.ofNat (i * 6 + t) - 1 := (Int32.sub_eq_add_neg _ _).symm
        first
          | rw [e2]
          | skip
        refine ih _ (xsm_xw (Or.inr rfl) hJ) (by omega) (by rw [xw_ne1 (by decide)]; exact j0) (fun k _ _ => Or.inr (by omega)) (fun k hk => by rw [xw_ne2 (by omega)]; exact j1 k (by omega)) ?_
        intro k a b
        by_cases e : k = i * 6 + t + 6
        · rw [e, xw_eq]; rfl
        · rw [xw_ne2 e]; exact j2 k (by omega) b
    obtain ⟨t, ht⟩ : ∃ t, l.length * 6 = i * 6 + t := ⟨l.length * 6 - i * 6, by omega⟩
    rw [hl.1, show Int32.ofNat l.length * 6 = Int32.ofNat (l.length * 6) from xv_mul _ 6, ht]
    exact down t I (xsm_refl _ _) (by omega) hl.1 (fun k _ _ => Or.inr (by omega)) (fun k _ => rfl) (fun k a b => by omega)
  have key : ∀ i, i ≤ l.length → (∀ j, j < i → l.getD j 0 < wc f (ab_n A)) → h_X9_putNow_2 2 (qN (fun o k => (o = 66 ∧ k = 32) ∨ o = 105) I L z (xRows (ab_n A) (insW (wc f (ab_n A)) l))) (0, 0) I L z (Int32.ofNat i) := by
    refine xcount _ l.length ?_ ?_
    · intro i hi k hj
      refine g_X9_putNow_2 (by decide) ?_
      have cl : Int32.ofNat i < I 66 32 := by rw [hl.1]; exact (xv_lt (by omega) (by omega)).mpr hi
      rw [if_pos cl]
      obtain ⟨g, g1, g2⟩ := hr _ (gd_mem hi)
      refine xuse (t_against hA hM hl (by omega) hi g1 g2 hf hn) (by decide) ?_
      rintro _ _ ⟨v, rfl, rfl, v1, v2⟩
      refine g_X9_putNow_15 (by decide) ?_
      by_cases e : 0 < v
      · rw [if_pos e, show Int32.ofNat i + 1 = Int32.ofNat (i + 1) from xv_add i 1]
        refine k fun j hj' => ?_
        by_cases c : j = i
        · rw [c]; exact v1.mp e
        · exact hj j (by omega)
      · rw [if_neg e, if_pos cl]
        refine xuse (t_against hA hM hl (by omega) hi g1 g2 hf hn) (by decide) ?_
        rintro _ _ ⟨v', rfl, rfl, v1', v2'⟩
        refine g_X9_putNow_37 (by decide) ?_
        by_cases c : v' = 0
        · rw [if_pos c]
          refine ⟨rfl, I, rfl, xsm_refl _ _, ?_⟩
          rw [insW_same hs (by rw [v2'.mp c]; exact gd_mem hi)]
          exact hl
        · rw [if_neg c]
          refine shift i (by omega) hj (Or.inr ?_)
          have n1 : ¬ l.getD i 0 < wc f (ab_n A) := fun q => e (v1.mpr q)
          have n2 : ¬ wc f (ab_n A) = l.getD i 0 := fun q => c (v2'.mpr q)
          omega
    · intro hj
      refine g_X9_putNow_2 (by decide) ?_
      rw [if_neg (by rw [hl.1]; exact fun q => Nat.lt_irrefl _ ((xv_lt (by omega) (by omega)).mp q))]
      exact shift l.length (Nat.le_refl _) hj (Or.inl rfl)
  exact key 0 (Nat.zero_le _) (fun j hj => absurd hj (Nat.not_lt_zero _))
