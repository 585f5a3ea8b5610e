/-! trays and references taken over: what they come to -/
def xtk1 (I : xI) (t s k : Nat) : xI := xw I t k (I s k)
def xtk (I : xI) (t s : Nat) : xI := xw (xcpy (xcpy (xcpy (xcpy (xcpy (xcpy (xcpy (xcpy (xtk1 (xtk1 (xtk1 (xtk1 (xtk1 I t s 0) t s 1) t s 2) t s 3) t s 4) (s + 1) (Int32.toNatClampNeg 0) (t + 1) (Int32.toNatClampNeg 0) (Int32.toNatClampNeg 6)) (s + 2) (Int32.toNatClampNeg 0) (t + 2) (Int32.toNatClampNeg 0) (Int32.toNatClampNeg 6)) (s + 3) (Int32.toNatClampNeg 0) (t + 3) (Int32.toNatClampNeg 0) (Int32.toNatClampNeg 18)) (s + 4) (Int32.toNatClampNeg 0) (t + 4) (Int32.toNatClampNeg 0) (Int32.toNatClampNeg 6)) (s + 5) (Int32.toNatClampNeg 0) (t + 5) (Int32.toNatClampNeg 0) (Int32.toNatClampNeg 6)) (s + 6) (Int32.toNatClampNeg 0) (t + 6) (Int32.toNatClampNeg 0) (Int32.toNatClampNeg 24)) (s + 7) (Int32.toNatClampNeg 0) (t + 7) (Int32.toNatClampNeg 0) (Int32.toNatClampNeg 4)) (s + 8) (Int32.toNatClampNeg 0) (t + 8) (Int32.toNatClampNeg 0) (Int32.toNatClampNeg 4)) t 5 1
def trS (t : Nat) : Nat → Nat → Prop := fun o k => t ≤ o ∧ o ≤ t + 8 ∧ (o = t → k < 6)
def xTk (I K : xI) (t s : Nat) : Prop := xsm (trS t) I K ∧ K t 5 = 1 ∧ (∀ k, k < 5 → K t k = I s k) ∧ (∀ k, k < 6 → K (t + 1) k = I (s + 1) k) ∧ (∀ k, k < 6 → K (t + 2) k = I (s + 2) k) ∧ (∀ k, k < 18 → K (t + 3) k = I (s + 3) k) ∧ (∀ k, k < 6 → K (t + 4) k = I (s + 4) k) ∧ (∀ k, k < 6 → K (t + 5) k = I (s + 5) k) ∧ (∀ k, k < 24 → K (t + 6) k = I (s + 6) k) ∧ (∀ k, k < 4 → K (t + 7) k = I (s + 7) k) ∧ (∀ k, k < 4 → K (t + 8) k = I (s + 8) k)
theorem xcpy_at {I : xI} {s d n k : Nat} (h : k < n) : xcpy I s 0 d 0 n d k = I s k := by
  unfold xcpy
  rw [if_pos ⟨rfl, Nat.zero_le _, by omega⟩]
  congr 1; omega
theorem xcpy_ne {I : xI} {s sp d dp n o k : Nat} (h : o ≠ d) : xcpy I s sp d dp n o k = I o k := if_neg (fun q => h q.1)
theorem tk_ok {I : xI} {t s : Nat} (h : t + 9 ≤ s ∨ s + 9 ≤ t) : xTk I (xtk I t s) t s := by
  have e0 : Int32.toNatClampNeg 0 = 0 := rfl
  have e4 : Int32.toNatClampNeg 4 = 4 := rfl
  have e6 : Int32.toNatClampNeg 6 = 6 := rfl
  have e18 : Int32.toNatClampNeg 18 = 18 := rfl
  have e24 : Int32.toNatClampNeg 24 = 24 := rfl
  unfold xtk
  rw [e0, e4, e6, e18, e24]
  refine ⟨?_, ?_, ?_, ?_, ?_, ?_, ?_, ?_, ?_, ?_, ?_⟩
  · intro o k hs
    unfold trS at hs
    unfold xtk1
    by_cases c : o = t
    · simp (disch := omega) only [xw_ne2, xcpy_ne]
    · simp (disch := omega) only [xw_ne1, xcpy_ne]
  · rw [xw_eq]
  · intro k hk
    have hk : k = 0 ∨ k = 1 ∨ k = 2 ∨ k = 3 ∨ k = 4 := by omega
    rcases hk with rfl | rfl | rfl | rfl | rfl <;> (rw [xw_ne2 (by decide)]; simp (disch := omega) only [xcpy_ne, xtk1, xw_eq, xw_ne1, xw_ne2])
  · intro k hk; simp (disch := omega) only [xw_ne1, xcpy_ne, xcpy_at, xtk1]
  · intro k hk; simp (disch := omega) only [xw_ne1, xcpy_ne, xcpy_at, xtk1]
  · intro k hk; simp (disch := omega) only [xw_ne1, xcpy_ne, xcpy_at, xtk1]
  · intro k hk; simp (disch := omega) only [xw_ne1, xcpy_ne, xcpy_at, xtk1]
  · intro k hk; simp (disch := omega) only [xw_ne1, xcpy_ne, xcpy_at, xtk1]
  · intro k hk; simp (disch := omega) only [xw_ne1, xcpy_ne, xcpy_at, xtk1]
  · intro k hk; simp (disch := omega) only [xw_ne1, xcpy_ne, xcpy_at, xtk1]
  · intro k hk; simp (disch := omega) only [xw_ne1, xcpy_ne, xcpy_at, xtk1]
theorem xTk_TX {I K : xI} {t s : Nat} {A : xAb} (hA : abOK A) (h : xTk I K t s) (q : xTX I s A) : xTX K t A := by
  obtain ⟨⟨q1, q2, q3, q4, q5⟩, q6, q7, q8, q9, q10, q11, q12⟩ := q
  obtain ⟨h1, h2, h3, h4, h5, h6, h7, h8, h9, h10, h11⟩ := h
  have n24 := hA.2.2.2.2.2.2.2.2.1.1
  have n4 := hA.2.2.2.2.2.2.2.2.2.1
  refine ⟨⟨?_, ?_, ?_, ?_, ?_⟩, ?_, ?_, ?_, ?_, ?_, ?_, ?_⟩
  · rw [h3 0 (by decide)]; exact q1
  · rw [h3 1 (by decide)]; exact q2
  · rw [h3 2 (by decide)]; exact q3
  · rw [h3 3 (by decide)]; exact q4
  · rw [h3 4 (by decide)]; exact q5
  · intro k hk; rw [h4 k hk]; exact q6 k hk
  · intro k hk; rw [h5 k hk]; exact q7 k hk
  · intro i hi l hl; rw [h6 _ (by omega)]; exact q8 i hi l hl
  · intro k hk; rw [h7 k hk]; exact q9 k hk
  · intro k hk; rw [h8 k hk]; exact q10 k hk
  · intro k hk; rw [h9 k (by omega)]; exact q11 k hk
  · intro k hk; rw [h10 k (by omega), h11 k (by omega)]; exact q12 k hk
theorem t_take_19_10 {I : xI} {L : xL} {z : Bool × Bool × Nat} : xCd 1 81 [.ref 19, .ref 10] (xS I L z) (fun r τ => r = none ∧ ∃ K, τ = xS K L z ∧ xTk I K 19 10) := by
  refine c_X6_takeAllOf_19_10 (d := 0) (g_X6_takeAllOf_19_10_0 (Nat.le_refl _) ⟨rfl, _, rfl, ?_⟩)
  exact tk_ok (t := 19) (s := 10) (by decide)
theorem t_take_28_10 {I : xI} {L : xL} {z : Bool × Bool × Nat} : xCd 1 81 [.ref 28, .ref 10] (xS I L z) (fun r τ => r = none ∧ ∃ K, τ = xS K L z ∧ xTk I K 28 10) := by
  refine c_X6_takeAllOf_28_10 (d := 0) (g_X6_takeAllOf_28_10_0 (Nat.le_refl _) ⟨rfl, _, rfl, ?_⟩)
  exact tk_ok (t := 28) (s := 10) (by decide)
theorem t_take_10_28 {I : xI} {L : xL} {z : Bool × Bool × Nat} : xCd 1 81 [.ref 10, .ref 28] (xS I L z) (fun r τ => r = none ∧ ∃ K, τ = xS K L z ∧ xTk I K 10 28) := by
  refine c_X6_takeAllOf_10_28 (d := 0) (g_X6_takeAllOf_10_28_0 (Nat.le_refl _) ⟨rfl, _, rfl, ?_⟩)
  exact tk_ok (t := 10) (s := 28) (by decide)
theorem t_take_10_19 {I : xI} {L : xL} {z : Bool × Bool × Nat} : xCd 1 81 [.ref 10, .ref 19] (xS I L z) (fun r τ => r = none ∧ ∃ K, τ = xS K L z ∧ xTk I K 10 19) := by
  refine c_X6_takeAllOf_10_19 (d := 0) (g_X6_takeAllOf_10_19_0 (Nat.le_refl _) ⟨rfl, _, rfl, ?_⟩)
  exact tk_ok (t := 10) (s := 19) (by decide)
/-- the reference's cells -/
def tfl (o : Nat) : Nat := if o ≤ 18 ∨ o = 26 ∨ o = 27 then 6 else 4
def tfS (t : Nat) : Nat → Nat → Prop := fun o k => (o = t ∧ (k = 9 ∨ k = 10 ∨ k = 17 ∨ k = 20)) ∨ (t + 17 ≤ o ∧ o ≤ t + 36)
def tfD (I K : xI) (t s : Nat) (D E : Nat → Prop) : Prop := xsm (tfS t) I K ∧ (∀ o, D o → ∀ k, k < tfl o → K (t + o) k = I (s + o) k) ∧ ∀ k, E k → K t k = I s k
def xTf (I K : xI) (t s : Nat) : Prop := tfD I K t s (fun o => o = 17 ∨ o = 18 ∨ (20 ≤ o ∧ o ≤ 27) ∨ (29 ≤ o ∧ o ≤ 36)) (fun k => k = 9 ∨ k = 10 ∨ k = 17 ∨ k = 20)
theorem tfD_0 (I : xI) (t s : Nat) : tfD I I t s (fun _ => False) (fun _ => False) := ⟨xsm_refl _ _, fun _ h => h.elim, fun _ h => h.elim⟩
theorem tfD_c {I K : xI} {t s o n : Nat} {D E : Nat → Prop} (h : tfD I K t s D E) (hd : t + 46 ≤ s ∨ s + 46 ≤ t) (h1 : 17 ≤ o) (h2 : o ≤ 36) (hn : tfl o ≤ n) : tfD I (xcop K (s + o) (t + o) n) t s (fun o' => D o' ∨ o' = o) E := by
  obtain ⟨a, b, c⟩ := h
  refine ⟨?_, ?_, ?_⟩
  · intro o' k hs
    unfold tfS at hs
    unfold xcop
    rw [if_neg (fun q => hs (Or.inr (by omega)))]
    exact a o' k hs
  · intro o' ho k hk
    have src : K (s + o) k = I (s + o) k := a _ _ (by unfold tfS; omega)
    unfold xcop
    by_cases e : o' = o
    · subst e
      rw [if_pos ⟨rfl, by omega⟩, src]
    · rcases ho with ho | ho
      · rw [if_neg (fun q => by omega)]; exact b o' ho k hk
      · exact absurd ho e
  · intro k hk
    unfold xcop
    rw [if_neg (fun q => by omega)]; exact c k hk
theorem tfD_w {I K : xI} {t s k : Nat} {D E : Nat → Prop} (h : tfD I K t s D E) (hd : t + 46 ≤ s ∨ s + 46 ≤ t) (hk : k = 9 ∨ k = 10 ∨ k = 17 ∨ k = 20) (hD : ∀ o, D o → 17 ≤ o) : tfD I (xw K t k (K s k)) t s D (fun k' => E k' ∨ k' = k) := by
  obtain ⟨a, b, c⟩ := h
  refine ⟨xsm_xw (Or.inl ⟨rfl, hk⟩) a, ?_, ?_⟩
  · intro o ho k' hk'
    have := hD o ho
    rw [xw_ne1 (by omega)]; exact b o ho k' hk'
  · intro k' hk'
    by_cases e : k' = k
    · rw [e, xw_eq]; exact a _ _ (by unfold tfS; omega)
    · rcases hk' with hk' | hk'
      · rw [xw_ne2 e]; exact c k' hk'
      · exact absurd hk' e
theorem tfD_mono {I K : xI} {t s : Nat} {D E D' E' : Nat → Prop} (h : tfD I K t s D E) (hD : ∀ o, D' o → D o) (hE : ∀ k, E' k → E k) : tfD I K t s D' E' := ⟨h.1, fun o ho => h.2.1 o (hD o ho), fun k hk => h.2.2 k (hE k hk)⟩
theorem xTf_TM {I K : xI} {t s : Nat} {A : xAb} (hA : abOK A) (h : xTf I K t s) (q : xTM I s A) : xTM K t A := by
  obtain ⟨⟨q1, q2, q3, q4⟩, q6, q7, q8, q9, q10, q11, q12⟩ := q
  obtain ⟨h1, h2, h3⟩ := h
  have n6 := hA.1.2
  have n4 := hA.2.2.2.2.2.2.2.2.2.1
  refine ⟨⟨?_, ?_, ?_, ?_⟩, ?_, ?_, ?_, ?_, ?_, ?_, ?_⟩
  · rw [h3 9 (by omega)]; exact q1
  · rw [h3 10 (by omega)]; exact q2
  · rw [h3 20 (by omega)]; exact q3
  · rw [h3 17 (by omega)]; exact q4
  · intro k hk; rw [h2 17 (by omega) k (by unfold tfl; rw [if_pos (by omega)]; omega)]; exact q6 k hk
  · intro k hk; rw [h2 18 (by omega) k (by unfold tfl; rw [if_pos (by omega)]; omega)]; exact q7 k hk
  · intro i hi
    have e : ∀ l, l < 4 → K (t + 20 + i) l = I (s + 20 + i) l := fun l hl => by
      have := h2 (20 + i) (by omega) l (by unfold tfl; rw [if_neg (by omega)]; omega)
      rw [show t + 20 + i = t + (20 + i) from by omega, show s + 20 + i = s + (20 + i) from by omega]; exact this
    obtain ⟨a, b⟩ := q8 i hi
    exact ⟨fun l hl => by rw [e l (by omega)]; exact a l hl, by rw [e 3 (by decide)]; exact b⟩
  · intro k hk; rw [h2 26 (by omega) k (by unfold tfl; rw [if_pos (by omega)]; omega)]; exact q9 k hk
  · intro k hk; rw [h2 27 (by omega) k (by unfold tfl; rw [if_pos (by omega)]; omega)]; exact q10 k hk
  · intro p hp k hk
    have := h2 (29 + p) (by omega) k (by unfold tfl; rw [if_neg (by omega)]; omega)
    rw [show t + 29 + p = t + (29 + p) from by omega, this, show s + (29 + p) = s + 29 + p from by omega]; exact q11 p hp k hk
  · intro k hk
    rw [h2 35 (by omega) k (by unfold tfl; rw [if_neg (by omega)]; omega), h2 36 (by omega) k (by unfold tfl; rw [if_neg (by omega)]; omega)]; exact q12 k hk
theorem g_X9_takeFrom_112_66_10_60x {I K0 : xI} {L : xL} {z : Nat} {D : Nat → Prop} (w0 : tfD I K0 112 66 D (fun k => ((False ∨ k = 9) ∨ k = 10))) (hD : ∀ o, D o ↔ (o = 17 ∨ o = 18 ∨ o = 26 ∨ o = 27)) : h_X9_takeFrom_112_66_10_62 1 (fun r τ => r = none ∧ ∃ K, τ = xS K L (true, false, z) ∧ xTf I K 112 66) (0, 0) K0 L z 0 := by
  have al : ∀ p, p < 6 → (xalive (112, bif ((true, false, z) : Bool × Bool × Nat).1 then 158 else 112, bif ((true, false, z) : Bool × Bool × Nat).2.1 then 204 else 158) (66 + (20 + p)) = true ∧ xalive (112, bif ((true, false, z) : Bool × Bool × Nat).1 then 158 else 112, bif ((true, false, z) : Bool × Bool × Nat).2.1 then 204 else 158) (112 + (20 + p)) = true ∧ xkind (66 + (20 + p)) = 20 ∧ xkind (112 + (20 + p)) = 20 ∧ Nat.blt 8 (112 + (20 + p)) = true ∧ xlen z (66 + (20 + p)) = 4 ∧ xlen z (112 + (20 + p)) = 4) ∧ (xalive (112, bif ((true, false, z) : Bool × Bool × Nat).1 then 158 else 112, bif ((true, false, z) : Bool × Bool × Nat).2.1 then 204 else 158) (66 + (29 + p)) = true ∧ xalive (112, bif ((true, false, z) : Bool × Bool × Nat).1 then 158 else 112, bif ((true, false, z) : Bool × Bool × Nat).2.1 then 204 else 158) (112 + (29 + p)) = true ∧ xkind (66 + (29 + p)) = 20 ∧ xkind (112 + (29 + p)) = 20 ∧ Nat.blt 8 (112 + (29 + p)) = true ∧ xlen z (66 + (29 + p)) = 4 ∧ xlen z (112 + (29 + p)) = 4) := by
    intro p hp
    have hp : p = 0 ∨ p = 1 ∨ p = 2 ∨ p = 3 ∨ p = 4 ∨ p = 5 := by omega
    rcases hp with rfl | rfl | rfl | rfl | rfl | rfl <;> exact ⟨⟨rfl, rfl, rfl, rfl, rfl, rfl, rfl⟩, ⟨rfl, rfl, rfl, rfl, rfl, rfl, rfl⟩⟩
  have key : ∀ p, p ≤ 6 → ∀ K : xI, tfD I K 112 66 (fun o => o = 17 ∨ o = 18 ∨ o = 26 ∨ o = 27 ∨ (20 ≤ o ∧ o < 20 + p) ∨ (29 ≤ o ∧ o < 29 + p)) (fun k => k = 9 ∨ k = 10) → h_X9_takeFrom_112_66_10_62 1 (fun r τ => r = none ∧ ∃ K, τ = xS K L (true, false, z) ∧ xTf I K 112 66) (0, 0) K L z (Int32.ofNat p) := by
    refine xcount _ 6 ?_ ?_
    · intro p hp KK K w
      refine g_X9_takeFrom_112_66_10_62 (Nat.zero_le _) ?_
      obtain ⟨⟨a1, a2, a3, a4, a5, a6, a7⟩, ⟨b1, b2, b3, b4, b5, b6, b7⟩⟩ := al p hp
      rw [if_pos (show Int32.ofNat p < (6 : Int32) from (xv_lt (b := 6) (by omega) (by decide)).mpr hp), if_pos ((xv_in (by omega)).mpr hp), xv_clamp (by omega), show 85 + 1 + p = 66 + (20 + p) from by omega, show 131 + 1 + p = 112 + (20 + p) from by omega]
      refine xuse (s_X9_copied (z := (true, false, z)) (n := 4) a1 a3 a2 a4 a5 (by omega) a6 a7 (by decide)) (by decide) ?_
      rintro _ _ ⟨rfl, rfl⟩
      have w2 := tfD_c (o := 20 + p) (n := 4) w (by decide) (by omega) (by omega) (by unfold tfl; rw [if_neg (by omega)]; omega)
      refine g_X9_takeFrom_112_66_10_83 (Nat.zero_le _) ?_
      rw [if_pos ((xv_in (by omega)).mpr hp), xv_clamp (by omega), show 94 + 1 + p = 66 + (29 + p) from by omega, show 140 + 1 + p = 112 + (29 + p) from by omega]
      refine xuse (s_X9_copied (z := (true, false, z)) (n := 4) b1 b3 b2 b4 b5 (by omega) b6 b7 (by decide)) (by decide) ?_
      rintro _ _ ⟨rfl, rfl⟩
      have w3 := tfD_c (o := 29 + p) (n := 4) w2 (by decide) (by omega) (by omega) (by unfold tfl; rw [if_neg (by omega)]; omega)
      refine g_X9_takeFrom_112_66_10_98 (Nat.zero_le _) ?_
      rw [show Int32.ofNat p + 1 = Int32.ofNat (p + 1) from xv_add p 1]
      exact KK _ (tfD_mono w3 (fun o h => by omega) (fun k h => h))
    · intro K w
      refine g_X9_takeFrom_112_66_10_62 (Nat.zero_le _) ?_
      rw [if_neg (show ¬ Int32.ofNat 6 < (6 : Int32) from by decide)]
      have w2 := tfD_w (k := 17) w (by decide) (by decide) (fun o h => by omega)
      refine xuse (s_X9_copied (z := (true, false, z)) (a0 := 101) (a1 := 147) (n := 4) rfl rfl rfl rfl rfl (by decide) rfl rfl (by decide)) (by decide) ?_
      rintro _ _ ⟨rfl, rfl⟩
      have w3 := tfD_c (o := 35) (n := 4) w2 (by decide) (by decide) (by decide) (by decide)
      refine g_X9_takeFrom_112_66_10_123 (Nat.zero_le _) ?_
      refine xuse (s_X9_copied (z := (true, false, z)) (a0 := 102) (a1 := 148) (n := 4) rfl rfl rfl rfl rfl (by decide) rfl rfl (by decide)) (by decide) ?_
      rintro _ _ ⟨rfl, rfl⟩
      have w4 := tfD_c (o := 36) (n := 4) w3 (by decide) (by decide) (by decide) (by decide)
      refine g_X9_takeFrom_112_66_10_134 (Nat.zero_le _) ⟨rfl, _, rfl, ?_⟩
      have w5 := tfD_w (k := 20) w4 (by decide) (by decide) (fun o h => by omega)
      exact tfD_mono w5 (fun o h => by omega) (fun k h => by omega)
  exact key 0 (Nat.zero_le _) K0 (tfD_mono w0 (fun o h => (hD o).mpr (by omega)) (fun k h => by
    rcases h with h | h
    · exact Or.inl (Or.inr h)
    · exact Or.inr h))
theorem t_from_112_66_10 {I : xI} {L : xL} {z : Nat} : xCd 2 295 [.ref 112, .ref 66] (xS I L (true, false, z)) (fun r τ => r = none ∧ ∃ K, τ = xS K L (true, false, z) ∧ xTf I K 112 66) := by
  refine c_X9_takeFrom_112_66_10 (d := 1) (g_X9_takeFrom_112_66_10_0 (Nat.zero_le _) ?_)
  have w1 := tfD_w (k := 10) (tfD_w (k := 9) (tfD_0 I 112 66) (by decide) (by decide) (fun _ h => h.elim)) (by decide) (by decide) (fun _ h => h.elim)
  refine xuse (s_X9_copied (z := (true, false, z)) (a0 := 83) (a1 := 129) (n := 6) rfl rfl rfl rfl rfl (by decide) rfl rfl (by decide)) (by decide) ?_
  rintro _ _ ⟨rfl, rfl⟩
  have w2 := tfD_c (o := 17) (n := 6) w1 (by decide) (by decide) (by decide) (by decide)
  refine g_X9_takeFrom_112_66_10_27 (Nat.zero_le _) ?_
  refine xuse (s_X9_copied (z := (true, false, z)) (a0 := 84) (a1 := 130) (n := 6) rfl rfl rfl rfl rfl (by decide) rfl rfl (by decide)) (by decide) ?_
  rintro _ _ ⟨rfl, rfl⟩
  have w3 := tfD_c (o := 18) (n := 6) w2 (by decide) (by decide) (by decide) (by decide)
  refine g_X9_takeFrom_112_66_10_38 (Nat.zero_le _) ?_
  refine xuse (s_X9_copied (z := (true, false, z)) (a0 := 92) (a1 := 138) (n := 6) rfl rfl rfl rfl rfl (by decide) rfl rfl (by decide)) (by decide) ?_
  rintro _ _ ⟨rfl, rfl⟩
  have w4 := tfD_c (o := 26) (n := 6) w3 (by decide) (by decide) (by decide) (by decide)
  refine g_X9_takeFrom_112_66_10_49 (Nat.zero_le _) ?_
  refine xuse (s_X9_copied (z := (true, false, z)) (a0 := 93) (a1 := 139) (n := 6) rfl rfl rfl rfl rfl (by decide) rfl rfl (by decide)) (by decide) ?_
  rintro _ _ ⟨rfl, rfl⟩
  have w5 := tfD_c (o := 27) (n := 6) w4 (by decide) (by decide) (by decide) (by decide)
  refine g_X9_takeFrom_112_66_10_60 (Nat.zero_le _) (g_X9_takeFrom_112_66_10_60x w5 (fun o => by
    constructor <;> (intro h; simp only [false_or] at h ⊢; omega)))
theorem g_X9_takeFrom_66_112_10_60x {I K0 : xI} {L : xL} {z : Nat} {D : Nat → Prop} (w0 : tfD I K0 66 112 D (fun k => ((False ∨ k = 9) ∨ k = 10))) (hD : ∀ o, D o ↔ (o = 17 ∨ o = 18 ∨ o = 26 ∨ o = 27)) : h_X9_takeFrom_66_112_10_62 1 (fun r τ => r = none ∧ ∃ K, τ = xS K L (true, false, z) ∧ xTf I K 66 112) (0, 0) K0 L z 0 := by
  have al : ∀ p, p < 6 → (xalive (112, bif ((true, false, z) : Bool × Bool × Nat).1 then 158 else 112, bif ((true, false, z) : Bool × Bool × Nat).2.1 then 204 else 158) (112 + (20 + p)) = true ∧ xalive (112, bif ((true, false, z) : Bool × Bool × Nat).1 then 158 else 112, bif ((true, false, z) : Bool × Bool × Nat).2.1 then 204 else 158) (66 + (20 + p)) = true ∧ xkind (112 + (20 + p)) = 20 ∧ xkind (66 + (20 + p)) = 20 ∧ Nat.blt 8 (66 + (20 + p)) = true ∧ xlen z (112 + (20 + p)) = 4 ∧ xlen z (66 + (20 + p)) = 4) ∧ (xalive (112, bif ((true, false, z) : Bool × Bool × Nat).1 then 158 else 112, bif ((true, false, z) : Bool × Bool × Nat).2.1 then 204 else 158) (112 + (29 + p)) = true ∧ xalive (112, bif ((true, false, z) : Bool × Bool × Nat).1 then 158 else 112, bif ((true, false, z) : Bool × Bool × Nat).2.1 then 204 else 158) (66 + (29 + p)) = true ∧ xkind (112 + (29 + p)) = 20 ∧ xkind (66 + (29 + p)) = 20 ∧ Nat.blt 8 (66 + (29 + p)) = true ∧ xlen z (112 + (29 + p)) = 4 ∧ xlen z (66 + (29 + p)) = 4) := by
    intro p hp
    have hp : p = 0 ∨ p = 1 ∨ p = 2 ∨ p = 3 ∨ p = 4 ∨ p = 5 := by omega
    rcases hp with rfl | rfl | rfl | rfl | rfl | rfl <;> exact ⟨⟨rfl, rfl, rfl, rfl, rfl, rfl, rfl⟩, ⟨rfl, rfl, rfl, rfl, rfl, rfl, rfl⟩⟩
  have key : ∀ p, p ≤ 6 → ∀ K : xI, tfD I K 66 112 (fun o => o = 17 ∨ o = 18 ∨ o = 26 ∨ o = 27 ∨ (20 ≤ o ∧ o < 20 + p) ∨ (29 ≤ o ∧ o < 29 + p)) (fun k => k = 9 ∨ k = 10) → h_X9_takeFrom_66_112_10_62 1 (fun r τ => r = none ∧ ∃ K, τ = xS K L (true, false, z) ∧ xTf I K 66 112) (0, 0) K L z (Int32.ofNat p) := by
    refine xcount _ 6 ?_ ?_
    · intro p hp KK K w
      refine g_X9_takeFrom_66_112_10_62 (Nat.zero_le _) ?_
      obtain ⟨⟨a1, a2, a3, a4, a5, a6, a7⟩, ⟨b1, b2, b3, b4, b5, b6, b7⟩⟩ := al p hp
      rw [if_pos (show Int32.ofNat p < (6 : Int32) from (xv_lt (b := 6) (by omega) (by decide)).mpr hp), if_pos ((xv_in (by omega)).mpr hp), xv_clamp (by omega), show 131 + 1 + p = 112 + (20 + p) from by omega, show 85 + 1 + p = 66 + (20 + p) from by omega]
      refine xuse (s_X9_copied (z := (true, false, z)) (n := 4) a1 a3 a2 a4 a5 (by omega) a6 a7 (by decide)) (by decide) ?_
      rintro _ _ ⟨rfl, rfl⟩
      have w2 := tfD_c (o := 20 + p) (n := 4) w (by decide) (by omega) (by omega) (by unfold tfl; rw [if_neg (by omega)]; omega)
      refine g_X9_takeFrom_66_112_10_83 (Nat.zero_le _) ?_
      rw [if_pos ((xv_in (by omega)).mpr hp), xv_clamp (by omega), show 140 + 1 + p = 112 + (29 + p) from by omega, show 94 + 1 + p = 66 + (29 + p) from by omega]
      refine xuse (s_X9_copied (z := (true, false, z)) (n := 4) b1 b3 b2 b4 b5 (by omega) b6 b7 (by decide)) (by decide) ?_
      rintro _ _ ⟨rfl, rfl⟩
      have w3 := tfD_c (o := 29 + p) (n := 4) w2 (by decide) (by omega) (by omega) (by unfold tfl; rw [if_neg (by omega)]; omega)
      refine g_X9_takeFrom_66_112_10_98 (Nat.zero_le _) ?_
      rw [show Int32.ofNat p + 1 = Int32.ofNat (p + 1) from xv_add p 1]
      exact KK _ (tfD_mono w3 (fun o h => by omega) (fun k h => h))
    · intro K w
      refine g_X9_takeFrom_66_112_10_62 (Nat.zero_le _) ?_
      rw [if_neg (show ¬ Int32.ofNat 6 < (6 : Int32) from by decide)]
      have w2 := tfD_w (k := 17) w (by decide) (by decide) (fun o h => by omega)
      refine xuse (s_X9_copied (z := (true, false, z)) (a0 := 147) (a1 := 101) (n := 4) rfl rfl rfl rfl rfl (by decide) rfl rfl (by decide)) (by decide) ?_
      rintro _ _ ⟨rfl, rfl⟩
      have w3 := tfD_c (o := 35) (n := 4) w2 (by decide) (by decide) (by decide) (by decide)
      refine g_X9_takeFrom_66_112_10_123 (Nat.zero_le _) ?_
      refine xuse (s_X9_copied (z := (true, false, z)) (a0 := 148) (a1 := 102) (n := 4) rfl rfl rfl rfl rfl (by decide) rfl rfl (by decide)) (by decide) ?_
      rintro _ _ ⟨rfl, rfl⟩
      have w4 := tfD_c (o := 36) (n := 4) w3 (by decide) (by decide) (by decide) (by decide)
      refine g_X9_takeFrom_66_112_10_134 (Nat.zero_le _) ⟨rfl, _, rfl, ?_⟩
      have w5 := tfD_w (k := 20) w4 (by decide) (by decide) (fun o h => by omega)
      exact tfD_mono w5 (fun o h => by omega) (fun k h => by omega)
  exact key 0 (Nat.zero_le _) K0 (tfD_mono w0 (fun o h => (hD o).mpr (by omega)) (fun k h => by
    rcases h with h | h
    · exact Or.inl (Or.inr h)
    · exact Or.inr h))
theorem t_from_66_112_10 {I : xI} {L : xL} {z : Nat} : xCd 2 295 [.ref 66, .ref 112] (xS I L (true, false, z)) (fun r τ => r = none ∧ ∃ K, τ = xS K L (true, false, z) ∧ xTf I K 66 112) := by
  refine c_X9_takeFrom_66_112_10 (d := 1) (g_X9_takeFrom_66_112_10_0 (Nat.zero_le _) ?_)
  have w1 := tfD_w (k := 10) (tfD_w (k := 9) (tfD_0 I 66 112) (by decide) (by decide) (fun _ h => h.elim)) (by decide) (by decide) (fun _ h => h.elim)
  refine xuse (s_X9_copied (z := (true, false, z)) (a0 := 129) (a1 := 83) (n := 6) rfl rfl rfl rfl rfl (by decide) rfl rfl (by decide)) (by decide) ?_
  rintro _ _ ⟨rfl, rfl⟩
  have w2 := tfD_c (o := 17) (n := 6) w1 (by decide) (by decide) (by decide) (by decide)
  refine g_X9_takeFrom_66_112_10_27 (Nat.zero_le _) ?_
  refine xuse (s_X9_copied (z := (true, false, z)) (a0 := 130) (a1 := 84) (n := 6) rfl rfl rfl rfl rfl (by decide) rfl rfl (by decide)) (by decide) ?_
  rintro _ _ ⟨rfl, rfl⟩
  have w3 := tfD_c (o := 18) (n := 6) w2 (by decide) (by decide) (by decide) (by decide)
  refine g_X9_takeFrom_66_112_10_38 (Nat.zero_le _) ?_
  refine xuse (s_X9_copied (z := (true, false, z)) (a0 := 138) (a1 := 92) (n := 6) rfl rfl rfl rfl rfl (by decide) rfl rfl (by decide)) (by decide) ?_
  rintro _ _ ⟨rfl, rfl⟩
  have w4 := tfD_c (o := 26) (n := 6) w3 (by decide) (by decide) (by decide) (by decide)
  refine g_X9_takeFrom_66_112_10_49 (Nat.zero_le _) ?_
  refine xuse (s_X9_copied (z := (true, false, z)) (a0 := 139) (a1 := 93) (n := 6) rfl rfl rfl rfl rfl (by decide) rfl rfl (by decide)) (by decide) ?_
  rintro _ _ ⟨rfl, rfl⟩
  have w5 := tfD_c (o := 27) (n := 6) w4 (by decide) (by decide) (by decide) (by decide)
  refine g_X9_takeFrom_66_112_10_60 (Nat.zero_le _) (g_X9_takeFrom_66_112_10_60x w5 (fun o => by
    constructor <;> (intro h; simp only [false_or] at h ⊢; omega)))
theorem g_X9_takeFrom_158_66_01_60x {I K0 : xI} {L : xL} {z : Nat} {D : Nat → Prop} (w0 : tfD I K0 158 66 D (fun k => ((False ∨ k = 9) ∨ k = 10))) (hD : ∀ o, D o ↔ (o = 17 ∨ o = 18 ∨ o = 26 ∨ o = 27)) : h_X9_takeFrom_158_66_01_62 1 (fun r τ => r = none ∧ ∃ K, τ = xS K L (false, true, z) ∧ xTf I K 158 66) (0, 0) K0 L z 0 := by
  have al : ∀ p, p < 6 → (xalive (112, bif ((false, true, z) : Bool × Bool × Nat).1 then 158 else 112, bif ((false, true, z) : Bool × Bool × Nat).2.1 then 204 else 158) (66 + (20 + p)) = true ∧ xalive (112, bif ((false, true, z) : Bool × Bool × Nat).1 then 158 else 112, bif ((false, true, z) : Bool × Bool × Nat).2.1 then 204 else 158) (158 + (20 + p)) = true ∧ xkind (66 + (20 + p)) = 20 ∧ xkind (158 + (20 + p)) = 20 ∧ Nat.blt 8 (158 + (20 + p)) = true ∧ xlen z (66 + (20 + p)) = 4 ∧ xlen z (158 + (20 + p)) = 4) ∧ (xalive (112, bif ((false, true, z) : Bool × Bool × Nat).1 then 158 else 112, bif ((false, true, z) : Bool × Bool × Nat).2.1 then 204 else 158) (66 + (29 + p)) = true ∧ xalive (112, bif ((false, true, z) : Bool × Bool × Nat).1 then 158 else 112, bif ((false, true, z) : Bool × Bool × Nat).2.1 then 204 else 158) (158 + (29 + p)) = true ∧ xkind (66 + (29 + p)) = 20 ∧ xkind (158 + (29 + p)) = 20 ∧ Nat.blt 8 (158 + (29 + p)) = true ∧ xlen z (66 + (29 + p)) = 4 ∧ xlen z (158 + (29 + p)) = 4) := by
    intro p hp
    have hp : p = 0 ∨ p = 1 ∨ p = 2 ∨ p = 3 ∨ p = 4 ∨ p = 5 := by omega
    rcases hp with rfl | rfl | rfl | rfl | rfl | rfl <;> exact ⟨⟨rfl, rfl, rfl, rfl, rfl, rfl, rfl⟩, ⟨rfl, rfl, rfl, rfl, rfl, rfl, rfl⟩⟩
  have key : ∀ p, p ≤ 6 → ∀ K : xI, tfD I K 158 66 (fun o => o = 17 ∨ o = 18 ∨ o = 26 ∨ o = 27 ∨ (20 ≤ o ∧ o < 20 + p) ∨ (29 ≤ o ∧ o < 29 + p)) (fun k => k = 9 ∨ k = 10) → h_X9_takeFrom_158_66_01_62 1 (fun r τ => r = none ∧ ∃ K, τ = xS K L (false, true, z) ∧ xTf I K 158 66) (0, 0) K L z (Int32.ofNat p) := by
    refine xcount _ 6 ?_ ?_
    · intro p hp KK K w
      refine g_X9_takeFrom_158_66_01_62 (Nat.zero_le _) ?_
      obtain ⟨⟨a1, a2, a3, a4, a5, a6, a7⟩, ⟨b1, b2, b3, b4, b5, b6, b7⟩⟩ := al p hp
      rw [if_pos (show Int32.ofNat p < (6 : Int32) from (xv_lt (b := 6) (by omega) (by decide)).mpr hp), if_pos ((xv_in (by omega)).mpr hp), xv_clamp (by omega), show 85 + 1 + p = 66 + (20 + p) from by omega, show 177 + 1 + p = 158 + (20 + p) from by omega]
      refine xuse (s_X9_copied (z := (false, true, z)) (n := 4) a1 a3 a2 a4 a5 (by omega) a6 a7 (by decide)) (by decide) ?_
      rintro _ _ ⟨rfl, rfl⟩
      have w2 := tfD_c (o := 20 + p) (n := 4) w (by decide) (by omega) (by omega) (by unfold tfl; rw [if_neg (by omega)]; omega)
      refine g_X9_takeFrom_158_66_01_83 (Nat.zero_le _) ?_
      rw [if_pos ((xv_in (by omega)).mpr hp), xv_clamp (by omega), show 94 + 1 + p = 66 + (29 + p) from by omega, show 186 + 1 + p = 158 + (29 + p) from by omega]
      refine xuse (s_X9_copied (z := (false, true, z)) (n := 4) b1 b3 b2 b4 b5 (by omega) b6 b7 (by decide)) (by decide) ?_
      rintro _ _ ⟨rfl, rfl⟩
      have w3 := tfD_c (o := 29 + p) (n := 4) w2 (by decide) (by omega) (by omega) (by unfold tfl; rw [if_neg (by omega)]; omega)
      refine g_X9_takeFrom_158_66_01_98 (Nat.zero_le _) ?_
      rw [show Int32.ofNat p + 1 = Int32.ofNat (p + 1) from xv_add p 1]
      exact KK _ (tfD_mono w3 (fun o h => by omega) (fun k h => h))
    · intro K w
      refine g_X9_takeFrom_158_66_01_62 (Nat.zero_le _) ?_
      rw [if_neg (show ¬ Int32.ofNat 6 < (6 : Int32) from by decide)]
      have w2 := tfD_w (k := 17) w (by decide) (by decide) (fun o h => by omega)
      refine xuse (s_X9_copied (z := (false, true, z)) (a0 := 101) (a1 := 193) (n := 4) rfl rfl rfl rfl rfl (by decide) rfl rfl (by decide)) (by decide) ?_
      rintro _ _ ⟨rfl, rfl⟩
      have w3 := tfD_c (o := 35) (n := 4) w2 (by decide) (by decide) (by decide) (by decide)
      refine g_X9_takeFrom_158_66_01_123 (Nat.zero_le _) ?_
      refine xuse (s_X9_copied (z := (false, true, z)) (a0 := 102) (a1 := 194) (n := 4) rfl rfl rfl rfl rfl (by decide) rfl rfl (by decide)) (by decide) ?_
      rintro _ _ ⟨rfl, rfl⟩
      have w4 := tfD_c (o := 36) (n := 4) w3 (by decide) (by decide) (by decide) (by decide)
      refine g_X9_takeFrom_158_66_01_134 (Nat.zero_le _) ⟨rfl, _, rfl, ?_⟩
      have w5 := tfD_w (k := 20) w4 (by decide) (by decide) (fun o h => by omega)
      exact tfD_mono w5 (fun o h => by omega) (fun k h => by omega)
  exact key 0 (Nat.zero_le _) K0 (tfD_mono w0 (fun o h => (hD o).mpr (by omega)) (fun k h => by
    rcases h with h | h
    · exact Or.inl (Or.inr h)
    · exact Or.inr h))
theorem t_from_158_66_01 {I : xI} {L : xL} {z : Nat} : xCd 2 295 [.ref 158, .ref 66] (xS I L (false, true, z)) (fun r τ => r = none ∧ ∃ K, τ = xS K L (false, true, z) ∧ xTf I K 158 66) := by
  refine c_X9_takeFrom_158_66_01 (d := 1) (g_X9_takeFrom_158_66_01_0 (Nat.zero_le _) ?_)
  have w1 := tfD_w (k := 10) (tfD_w (k := 9) (tfD_0 I 158 66) (by decide) (by decide) (fun _ h => h.elim)) (by decide) (by decide) (fun _ h => h.elim)
  refine xuse (s_X9_copied (z := (false, true, z)) (a0 := 83) (a1 := 175) (n := 6) rfl rfl rfl rfl rfl (by decide) rfl rfl (by decide)) (by decide) ?_
  rintro _ _ ⟨rfl, rfl⟩
  have w2 := tfD_c (o := 17) (n := 6) w1 (by decide) (by decide) (by decide) (by decide)
  refine g_X9_takeFrom_158_66_01_27 (Nat.zero_le _) ?_
  refine xuse (s_X9_copied (z := (false, true, z)) (a0 := 84) (a1 := 176) (n := 6) rfl rfl rfl rfl rfl (by decide) rfl rfl (by decide)) (by decide) ?_
  rintro _ _ ⟨rfl, rfl⟩
  have w3 := tfD_c (o := 18) (n := 6) w2 (by decide) (by decide) (by decide) (by decide)
  refine g_X9_takeFrom_158_66_01_38 (Nat.zero_le _) ?_
  refine xuse (s_X9_copied (z := (false, true, z)) (a0 := 92) (a1 := 184) (n := 6) rfl rfl rfl rfl rfl (by decide) rfl rfl (by decide)) (by decide) ?_
  rintro _ _ ⟨rfl, rfl⟩
  have w4 := tfD_c (o := 26) (n := 6) w3 (by decide) (by decide) (by decide) (by decide)
  refine g_X9_takeFrom_158_66_01_49 (Nat.zero_le _) ?_
  refine xuse (s_X9_copied (z := (false, true, z)) (a0 := 93) (a1 := 185) (n := 6) rfl rfl rfl rfl rfl (by decide) rfl rfl (by decide)) (by decide) ?_
  rintro _ _ ⟨rfl, rfl⟩
  have w5 := tfD_c (o := 27) (n := 6) w4 (by decide) (by decide) (by decide) (by decide)
  refine g_X9_takeFrom_158_66_01_60 (Nat.zero_le _) (g_X9_takeFrom_158_66_01_60x w5 (fun o => by
    constructor <;> (intro h; simp only [false_or] at h ⊢; omega)))
theorem g_X9_takeFrom_66_158_01_60x {I K0 : xI} {L : xL} {z : Nat} {D : Nat → Prop} (w0 : tfD I K0 66 158 D (fun k => ((False ∨ k = 9) ∨ k = 10))) (hD : ∀ o, D o ↔ (o = 17 ∨ o = 18 ∨ o = 26 ∨ o = 27)) : h_X9_takeFrom_66_158_01_62 1 (fun r τ => r = none ∧ ∃ K, τ = xS K L (false, true, z) ∧ xTf I K 66 158) (0, 0) K0 L z 0 := by
  have al : ∀ p, p < 6 → (xalive (112, bif ((false, true, z) : Bool × Bool × Nat).1 then 158 else 112, bif ((false, true, z) : Bool × Bool × Nat).2.1 then 204 else 158) (158 + (20 + p)) = true ∧ xalive (112, bif ((false, true, z) : Bool × Bool × Nat).1 then 158 else 112, bif ((false, true, z) : Bool × Bool × Nat).2.1 then 204 else 158) (66 + (20 + p)) = true ∧ xkind (158 + (20 + p)) = 20 ∧ xkind (66 + (20 + p)) = 20 ∧ Nat.blt 8 (66 + (20 + p)) = true ∧ xlen z (158 + (20 + p)) = 4 ∧ xlen z (66 + (20 + p)) = 4) ∧ (xalive (112, bif ((false, true, z) : Bool × Bool × Nat).1 then 158 else 112, bif ((false, true, z) : Bool × Bool × Nat).2.1 then 204 else 158) (158 + (29 + p)) = true ∧ xalive (112, bif ((false, true, z) : Bool × Bool × Nat).1 then 158 else 112, bif ((false, true, z) : Bool × Bool × Nat).2.1 then 204 else 158) (66 + (29 + p)) = true ∧ xkind (158 + (29 + p)) = 20 ∧ xkind (66 + (29 + p)) = 20 ∧ Nat.blt 8 (66 + (29 + p)) = true ∧ xlen z (158 + (29 + p)) = 4 ∧ xlen z (66 + (29 + p)) = 4) := by
    intro p hp
    have hp : p = 0 ∨ p = 1 ∨ p = 2 ∨ p = 3 ∨ p = 4 ∨ p = 5 := by omega
    rcases hp with rfl | rfl | rfl | rfl | rfl | rfl <;> exact ⟨⟨rfl, rfl, rfl, rfl, rfl, rfl, rfl⟩, ⟨rfl, rfl, rfl, rfl, rfl, rfl, rfl⟩⟩
  have key : ∀ p, p ≤ 6 → ∀ K : xI, tfD I K 66 158 (fun o => o = 17 ∨ o = 18 ∨ o = 26 ∨ o = 27 ∨ (20 ≤ o ∧ o < 20 + p) ∨ (29 ≤ o ∧ o < 29 + p)) (fun k => k = 9 ∨ k = 10) → h_X9_takeFrom_66_158_01_62 1 (fun r τ => r = none ∧ ∃ K, τ = xS K L (false, true, z) ∧ xTf I K 66 158) (0, 0) K L z (Int32.ofNat p) := by
    refine xcount _ 6 ?_ ?_
    · intro p hp KK K w
      refine g_X9_takeFrom_66_158_01_62 (Nat.zero_le _) ?_
      obtain ⟨⟨a1, a2, a3, a4, a5, a6, a7⟩, ⟨b1, b2, b3, b4, b5, b6, b7⟩⟩ := al p hp
      rw [if_pos (show Int32.ofNat p < (6 : Int32) from (xv_lt (b := 6) (by omega) (by decide)).mpr hp), if_pos ((xv_in (by omega)).mpr hp), xv_clamp (by omega), show 177 + 1 + p = 158 + (20 + p) from by omega, show 85 + 1 + p = 66 + (20 + p) from by omega]
      refine xuse (s_X9_copied (z := (false, true, z)) (n := 4) a1 a3 a2 a4 a5 (by omega) a6 a7 (by decide)) (by decide) ?_
      rintro _ _ ⟨rfl, rfl⟩
      have w2 := tfD_c (o := 20 + p) (n := 4) w (by decide) (by omega) (by omega) (by unfold tfl; rw [if_neg (by omega)]; omega)
      refine g_X9_takeFrom_66_158_01_83 (Nat.zero_le _) ?_
      rw [if_pos ((xv_in (by omega)).mpr hp), xv_clamp (by omega), show 186 + 1 + p = 158 + (29 + p) from by omega, show 94 + 1 + p = 66 + (29 + p) from by omega]
      refine xuse (s_X9_copied (z := (false, true, z)) (n := 4) b1 b3 b2 b4 b5 (by omega) b6 b7 (by decide)) (by decide) ?_
      rintro _ _ ⟨rfl, rfl⟩
      have w3 := tfD_c (o := 29 + p) (n := 4) w2 (by decide) (by omega) (by omega) (by unfold tfl; rw [if_neg (by omega)]; omega)
      refine g_X9_takeFrom_66_158_01_98 (Nat.zero_le _) ?_
      rw [show Int32.ofNat p + 1 = Int32.ofNat (p + 1) from xv_add p 1]
      exact KK _ (tfD_mono w3 (fun o h => by omega) (fun k h => h))
    · intro K w
      refine g_X9_takeFrom_66_158_01_62 (Nat.zero_le _) ?_
      rw [if_neg (show ¬ Int32.ofNat 6 < (6 : Int32) from by decide)]
      have w2 := tfD_w (k := 17) w (by decide) (by decide) (fun o h => by omega)
      refine xuse (s_X9_copied (z := (false, true, z)) (a0 := 193) (a1 := 101) (n := 4) rfl rfl rfl rfl rfl (by decide) rfl rfl (by decide)) (by decide) ?_
      rintro _ _ ⟨rfl, rfl⟩
      have w3 := tfD_c (o := 35) (n := 4) w2 (by decide) (by decide) (by decide) (by decide)
      refine g_X9_takeFrom_66_158_01_123 (Nat.zero_le _) ?_
      refine xuse (s_X9_copied (z := (false, true, z)) (a0 := 194) (a1 := 102) (n := 4) rfl rfl rfl rfl rfl (by decide) rfl rfl (by decide)) (by decide) ?_
      rintro _ _ ⟨rfl, rfl⟩
      have w4 := tfD_c (o := 36) (n := 4) w3 (by decide) (by decide) (by decide) (by decide)
      refine g_X9_takeFrom_66_158_01_134 (Nat.zero_le _) ⟨rfl, _, rfl, ?_⟩
      have w5 := tfD_w (k := 20) w4 (by decide) (by decide) (fun o h => by omega)
      exact tfD_mono w5 (fun o h => by omega) (fun k h => by omega)
  exact key 0 (Nat.zero_le _) K0 (tfD_mono w0 (fun o h => (hD o).mpr (by omega)) (fun k h => by
    rcases h with h | h
    · exact Or.inl (Or.inr h)
    · exact Or.inr h))
theorem t_from_66_158_01 {I : xI} {L : xL} {z : Nat} : xCd 2 295 [.ref 66, .ref 158] (xS I L (false, true, z)) (fun r τ => r = none ∧ ∃ K, τ = xS K L (false, true, z) ∧ xTf I K 66 158) := by
  refine c_X9_takeFrom_66_158_01 (d := 1) (g_X9_takeFrom_66_158_01_0 (Nat.zero_le _) ?_)
  have w1 := tfD_w (k := 10) (tfD_w (k := 9) (tfD_0 I 66 158) (by decide) (by decide) (fun _ h => h.elim)) (by decide) (by decide) (fun _ h => h.elim)
  refine xuse (s_X9_copied (z := (false, true, z)) (a0 := 175) (a1 := 83) (n := 6) rfl rfl rfl rfl rfl (by decide) rfl rfl (by decide)) (by decide) ?_
  rintro _ _ ⟨rfl, rfl⟩
  have w2 := tfD_c (o := 17) (n := 6) w1 (by decide) (by decide) (by decide) (by decide)
  refine g_X9_takeFrom_66_158_01_27 (Nat.zero_le _) ?_
  refine xuse (s_X9_copied (z := (false, true, z)) (a0 := 176) (a1 := 84) (n := 6) rfl rfl rfl rfl rfl (by decide) rfl rfl (by decide)) (by decide) ?_
  rintro _ _ ⟨rfl, rfl⟩
  have w3 := tfD_c (o := 18) (n := 6) w2 (by decide) (by decide) (by decide) (by decide)
  refine g_X9_takeFrom_66_158_01_38 (Nat.zero_le _) ?_
  refine xuse (s_X9_copied (z := (false, true, z)) (a0 := 184) (a1 := 92) (n := 6) rfl rfl rfl rfl rfl (by decide) rfl rfl (by decide)) (by decide) ?_
  rintro _ _ ⟨rfl, rfl⟩
  have w4 := tfD_c (o := 26) (n := 6) w3 (by decide) (by decide) (by decide) (by decide)
  refine g_X9_takeFrom_66_158_01_49 (Nat.zero_le _) ?_
  refine xuse (s_X9_copied (z := (false, true, z)) (a0 := 185) (a1 := 93) (n := 6) rfl rfl rfl rfl rfl (by decide) rfl rfl (by decide)) (by decide) ?_
  rintro _ _ ⟨rfl, rfl⟩
  have w5 := tfD_c (o := 27) (n := 6) w4 (by decide) (by decide) (by decide) (by decide)
  refine g_X9_takeFrom_66_158_01_60 (Nat.zero_le _) (g_X9_takeFrom_66_158_01_60x w5 (fun o => by
    constructor <;> (intro h; simp only [false_or] at h ⊢; omega)))
theorem g_X9_takeFrom_112_66_11_60x {I K0 : xI} {L : xL} {z : Nat} {D : Nat → Prop} (w0 : tfD I K0 112 66 D (fun k => ((False ∨ k = 9) ∨ k = 10))) (hD : ∀ o, D o ↔ (o = 17 ∨ o = 18 ∨ o = 26 ∨ o = 27)) : h_X9_takeFrom_112_66_11_62 1 (fun r τ => r = none ∧ ∃ K, τ = xS K L (true, true, z) ∧ xTf I K 112 66) (0, 0) K0 L z 0 := by
  have al : ∀ p, p < 6 → (xalive (112, bif ((true, true, z) : Bool × Bool × Nat).1 then 158 else 112, bif ((true, true, z) : Bool × Bool × Nat).2.1 then 204 else 158) (66 + (20 + p)) = true ∧ xalive (112, bif ((true, true, z) : Bool × Bool × Nat).1 then 158 else 112, bif ((true, true, z) : Bool × Bool × Nat).2.1 then 204 else 158) (112 + (20 + p)) = true ∧ xkind (66 + (20 + p)) = 20 ∧ xkind (112 + (20 + p)) = 20 ∧ Nat.blt 8 (112 + (20 + p)) = true ∧ xlen z (66 + (20 + p)) = 4 ∧ xlen z (112 + (20 + p)) = 4) ∧ (xalive (112, bif ((true, true, z) : Bool × Bool × Nat).1 then 158 else 112, bif ((true, true, z) : Bool × Bool × Nat).2.1 then 204 else 158) (66 + (29 + p)) = true ∧ xalive (112, bif ((true, true, z) : Bool × Bool × Nat).1 then 158 else 112, bif ((true, true, z) : Bool × Bool × Nat).2.1 then 204 else 158) (112 + (29 + p)) = true ∧ xkind (66 + (29 + p)) = 20 ∧ xkind (112 + (29 + p)) = 20 ∧ Nat.blt 8 (112 + (29 + p)) = true ∧ xlen z (66 + (29 + p)) = 4 ∧ xlen z (112 + (29 + p)) = 4) := by
    intro p hp
    have hp : p = 0 ∨ p = 1 ∨ p = 2 ∨ p = 3 ∨ p = 4 ∨ p = 5 := by omega
    rcases hp with rfl | rfl | rfl | rfl | rfl | rfl <;> exact ⟨⟨rfl, rfl, rfl, rfl, rfl, rfl, rfl⟩, ⟨rfl, rfl, rfl, rfl, rfl, rfl, rfl⟩⟩
  have key : ∀ p, p ≤ 6 → ∀ K : xI, tfD I K 112 66 (fun o => o = 17 ∨ o = 18 ∨ o = 26 ∨ o = 27 ∨ (20 ≤ o ∧ o < 20 + p) ∨ (29 ≤ o ∧ o < 29 + p)) (fun k => k = 9 ∨ k = 10) → h_X9_takeFrom_112_66_11_62 1 (fun r τ => r = none ∧ ∃ K, τ = xS K L (true, true, z) ∧ xTf I K 112 66) (0, 0) K L z (Int32.ofNat p) := by
    refine xcount _ 6 ?_ ?_
    · intro p hp KK K w
      refine g_X9_takeFrom_112_66_11_62 (Nat.zero_le _) ?_
      obtain ⟨⟨a1, a2, a3, a4, a5, a6, a7⟩, ⟨b1, b2, b3, b4, b5, b6, b7⟩⟩ := al p hp
      rw [if_pos (show Int32.ofNat p < (6 : Int32) from (xv_lt (b := 6) (by omega) (by decide)).mpr hp), if_pos ((xv_in (by omega)).mpr hp), xv_clamp (by omega), show 85 + 1 + p = 66 + (20 + p) from by omega, show 131 + 1 + p = 112 + (20 + p) from by omega]
      refine xuse (s_X9_copied (z := (true, true, z)) (n := 4) a1 a3 a2 a4 a5 (by omega) a6 a7 (by decide)) (by decide) ?_
      rintro _ _ ⟨rfl, rfl⟩
      have w2 := tfD_c (o := 20 + p) (n := 4) w (by decide) (by omega) (by omega) (by unfold tfl; rw [if_neg (by omega)]; omega)
      refine g_X9_takeFrom_112_66_11_83 (Nat.zero_le _) ?_
      rw [if_pos ((xv_in (by omega)).mpr hp), xv_clamp (by omega), show 94 + 1 + p = 66 + (29 + p) from by omega, show 140 + 1 + p = 112 + (29 + p) from by omega]
      refine xuse (s_X9_copied (z := (true, true, z)) (n := 4) b1 b3 b2 b4 b5 (by omega) b6 b7 (by decide)) (by decide) ?_
      rintro _ _ ⟨rfl, rfl⟩
      have w3 := tfD_c (o := 29 + p) (n := 4) w2 (by decide) (by omega) (by omega) (by unfold tfl; rw [if_neg (by omega)]; omega)
      refine g_X9_takeFrom_112_66_11_98 (Nat.zero_le _) ?_
      rw [show Int32.ofNat p + 1 = Int32.ofNat (p + 1) from xv_add p 1]
      exact KK _ (tfD_mono w3 (fun o h => by omega) (fun k h => h))
    · intro K w
      refine g_X9_takeFrom_112_66_11_62 (Nat.zero_le _) ?_
      rw [if_neg (show ¬ Int32.ofNat 6 < (6 : Int32) from by decide)]
      have w2 := tfD_w (k := 17) w (by decide) (by decide) (fun o h => by omega)
      refine xuse (s_X9_copied (z := (true, true, z)) (a0 := 101) (a1 := 147) (n := 4) rfl rfl rfl rfl rfl (by decide) rfl rfl (by decide)) (by decide) ?_
      rintro _ _ ⟨rfl, rfl⟩
      have w3 := tfD_c (o := 35) (n := 4) w2 (by decide) (by decide) (by decide) (by decide)
      refine g_X9_takeFrom_112_66_11_123 (Nat.zero_le _) ?_
      refine xuse (s_X9_copied (z := (true, true, z)) (a0 := 102) (a1 := 148) (n := 4) rfl rfl rfl rfl rfl (by decide) rfl rfl (by decide)) (by decide) ?_
      rintro _ _ ⟨rfl, rfl⟩
      have w4 := tfD_c (o := 36) (n := 4) w3 (by decide) (by decide) (by decide) (by decide)
      refine g_X9_takeFrom_112_66_11_134 (Nat.zero_le _) ⟨rfl, _, rfl, ?_⟩
      have w5 := tfD_w (k := 20) w4 (by decide) (by decide) (fun o h => by omega)
      exact tfD_mono w5 (fun o h => by omega) (fun k h => by omega)
  exact key 0 (Nat.zero_le _) K0 (tfD_mono w0 (fun o h => (hD o).mpr (by omega)) (fun k h => by
    rcases h with h | h
    · exact Or.inl (Or.inr h)
    · exact Or.inr h))
theorem t_from_112_66_11 {I : xI} {L : xL} {z : Nat} : xCd 2 295 [.ref 112, .ref 66] (xS I L (true, true, z)) (fun r τ => r = none ∧ ∃ K, τ = xS K L (true, true, z) ∧ xTf I K 112 66) := by
  refine c_X9_takeFrom_112_66_11 (d := 1) (g_X9_takeFrom_112_66_11_0 (Nat.zero_le _) ?_)
  have w1 := tfD_w (k := 10) (tfD_w (k := 9) (tfD_0 I 112 66) (by decide) (by decide) (fun _ h => h.elim)) (by decide) (by decide) (fun _ h => h.elim)
  refine xuse (s_X9_copied (z := (true, true, z)) (a0 := 83) (a1 := 129) (n := 6) rfl rfl rfl rfl rfl (by decide) rfl rfl (by decide)) (by decide) ?_
  rintro _ _ ⟨rfl, rfl⟩
  have w2 := tfD_c (o := 17) (n := 6) w1 (by decide) (by decide) (by decide) (by decide)
  refine g_X9_takeFrom_112_66_11_27 (Nat.zero_le _) ?_
  refine xuse (s_X9_copied (z := (true, true, z)) (a0 := 84) (a1 := 130) (n := 6) rfl rfl rfl rfl rfl (by decide) rfl rfl (by decide)) (by decide) ?_
  rintro _ _ ⟨rfl, rfl⟩
  have w3 := tfD_c (o := 18) (n := 6) w2 (by decide) (by decide) (by decide) (by decide)
  refine g_X9_takeFrom_112_66_11_38 (Nat.zero_le _) ?_
  refine xuse (s_X9_copied (z := (true, true, z)) (a0 := 92) (a1 := 138) (n := 6) rfl rfl rfl rfl rfl (by decide) rfl rfl (by decide)) (by decide) ?_
  rintro _ _ ⟨rfl, rfl⟩
  have w4 := tfD_c (o := 26) (n := 6) w3 (by decide) (by decide) (by decide) (by decide)
  refine g_X9_takeFrom_112_66_11_49 (Nat.zero_le _) ?_
  refine xuse (s_X9_copied (z := (true, true, z)) (a0 := 93) (a1 := 139) (n := 6) rfl rfl rfl rfl rfl (by decide) rfl rfl (by decide)) (by decide) ?_
  rintro _ _ ⟨rfl, rfl⟩
  have w5 := tfD_c (o := 27) (n := 6) w4 (by decide) (by decide) (by decide) (by decide)
  refine g_X9_takeFrom_112_66_11_60 (Nat.zero_le _) (g_X9_takeFrom_112_66_11_60x w5 (fun o => by
    constructor <;> (intro h; simp only [false_or] at h ⊢; omega)))
theorem g_X9_takeFrom_66_112_11_60x {I K0 : xI} {L : xL} {z : Nat} {D : Nat → Prop} (w0 : tfD I K0 66 112 D (fun k => ((False ∨ k = 9) ∨ k = 10))) (hD : ∀ o, D o ↔ (o = 17 ∨ o = 18 ∨ o = 26 ∨ o = 27)) : h_X9_takeFrom_66_112_11_62 1 (fun r τ => r = none ∧ ∃ K, τ = xS K L (true, true, z) ∧ xTf I K 66 112) (0, 0) K0 L z 0 := by
  have al : ∀ p, p < 6 → (xalive (112, bif ((true, true, z) : Bool × Bool × Nat).1 then 158 else 112, bif ((true, true, z) : Bool × Bool × Nat).2.1 then 204 else 158) (112 + (20 + p)) = true ∧ xalive (112, bif ((true, true, z) : Bool × Bool × Nat).1 then 158 else 112, bif ((true, true, z) : Bool × Bool × Nat).2.1 then 204 else 158) (66 + (20 + p)) = true ∧ xkind (112 + (20 + p)) = 20 ∧ xkind (66 + (20 + p)) = 20 ∧ Nat.blt 8 (66 + (20 + p)) = true ∧ xlen z (112 + (20 + p)) = 4 ∧ xlen z (66 + (20 + p)) = 4) ∧ (xalive (112, bif ((true, true, z) : Bool × Bool × Nat).1 then 158 else 112, bif ((true, true, z) : Bool × Bool × Nat).2.1 then 204 else 158) (112 + (29 + p)) = true ∧ xalive (112, bif ((true, true, z) : Bool × Bool × Nat).1 then 158 else 112, bif ((true, true, z) : Bool × Bool × Nat).2.1 then 204 else 158) (66 + (29 + p)) = true ∧ xkind (112 + (29 + p)) = 20 ∧ xkind (66 + (29 + p)) = 20 ∧ Nat.blt 8 (66 + (29 + p)) = true ∧ xlen z (112 + (29 + p)) = 4 ∧ xlen z (66 + (29 + p)) = 4) := by
    intro p hp
    have hp : p = 0 ∨ p = 1 ∨ p = 2 ∨ p = 3 ∨ p = 4 ∨ p = 5 := by omega
    rcases hp with rfl | rfl | rfl | rfl | rfl | rfl <;> exact ⟨⟨rfl, rfl, rfl, rfl, rfl, rfl, rfl⟩, ⟨rfl, rfl, rfl, rfl, rfl, rfl, rfl⟩⟩
  have key : ∀ p, p ≤ 6 → ∀ K : xI, tfD I K 66 112 (fun o => o = 17 ∨ o = 18 ∨ o = 26 ∨ o = 27 ∨ (20 ≤ o ∧ o < 20 + p) ∨ (29 ≤ o ∧ o < 29 + p)) (fun k => k = 9 ∨ k = 10) → h_X9_takeFrom_66_112_11_62 1 (fun r τ => r = none ∧ ∃ K, τ = xS K L (true, true, z) ∧ xTf I K 66 112) (0, 0) K L z (Int32.ofNat p) := by
    refine xcount _ 6 ?_ ?_
    · intro p hp KK K w
      refine g_X9_takeFrom_66_112_11_62 (Nat.zero_le _) ?_
      obtain ⟨⟨a1, a2, a3, a4, a5, a6, a7⟩, ⟨b1, b2, b3, b4, b5, b6, b7⟩⟩ := al p hp
      rw [if_pos (show Int32.ofNat p < (6 : Int32) from (xv_lt (b := 6) (by omega) (by decide)).mpr hp), if_pos ((xv_in (by omega)).mpr hp), xv_clamp (by omega), show 131 + 1 + p = 112 + (20 + p) from by omega, show 85 + 1 + p = 66 + (20 + p) from by omega]
      refine xuse (s_X9_copied (z := (true, true, z)) (n := 4) a1 a3 a2 a4 a5 (by omega) a6 a7 (by decide)) (by decide) ?_
      rintro _ _ ⟨rfl, rfl⟩
      have w2 := tfD_c (o := 20 + p) (n := 4) w (by decide) (by omega) (by omega) (by unfold tfl; rw [if_neg (by omega)]; omega)
      refine g_X9_takeFrom_66_112_11_83 (Nat.zero_le _) ?_
      rw [if_pos ((xv_in (by omega)).mpr hp), xv_clamp (by omega), show 140 + 1 + p = 112 + (29 + p) from by omega, show 94 + 1 + p = 66 + (29 + p) from by omega]
      refine xuse (s_X9_copied (z := (true, true, z)) (n := 4) b1 b3 b2 b4 b5 (by omega) b6 b7 (by decide)) (by decide) ?_
      rintro _ _ ⟨rfl, rfl⟩
      have w3 := tfD_c (o := 29 + p) (n := 4) w2 (by decide) (by omega) (by omega) (by unfold tfl; rw [if_neg (by omega)]; omega)
      refine g_X9_takeFrom_66_112_11_98 (Nat.zero_le _) ?_
      rw [show Int32.ofNat p + 1 = Int32.ofNat (p + 1) from xv_add p 1]
      exact KK _ (tfD_mono w3 (fun o h => by omega) (fun k h => h))
    · intro K w
      refine g_X9_takeFrom_66_112_11_62 (Nat.zero_le _) ?_
      rw [if_neg (show ¬ Int32.ofNat 6 < (6 : Int32) from by decide)]
      have w2 := tfD_w (k := 17) w (by decide) (by decide) (fun o h => by omega)
      refine xuse (s_X9_copied (z := (true, true, z)) (a0 := 147) (a1 := 101) (n := 4) rfl rfl rfl rfl rfl (by decide) rfl rfl (by decide)) (by decide) ?_
      rintro _ _ ⟨rfl, rfl⟩
      have w3 := tfD_c (o := 35) (n := 4) w2 (by decide) (by decide) (by decide) (by decide)
      refine g_X9_takeFrom_66_112_11_123 (Nat.zero_le _) ?_
      refine xuse (s_X9_copied (z := (true, true, z)) (a0 := 148) (a1 := 102) (n := 4) rfl rfl rfl rfl rfl (by decide) rfl rfl (by decide)) (by decide) ?_
      rintro _ _ ⟨rfl, rfl⟩
      have w4 := tfD_c (o := 36) (n := 4) w3 (by decide) (by decide) (by decide) (by decide)
      refine g_X9_takeFrom_66_112_11_134 (Nat.zero_le _) ⟨rfl, _, rfl, ?_⟩
      have w5 := tfD_w (k := 20) w4 (by decide) (by decide) (fun o h => by omega)
      exact tfD_mono w5 (fun o h => by omega) (fun k h => by omega)
  exact key 0 (Nat.zero_le _) K0 (tfD_mono w0 (fun o h => (hD o).mpr (by omega)) (fun k h => by
    rcases h with h | h
    · exact Or.inl (Or.inr h)
    · exact Or.inr h))
theorem t_from_66_112_11 {I : xI} {L : xL} {z : Nat} : xCd 2 295 [.ref 66, .ref 112] (xS I L (true, true, z)) (fun r τ => r = none ∧ ∃ K, τ = xS K L (true, true, z) ∧ xTf I K 66 112) := by
  refine c_X9_takeFrom_66_112_11 (d := 1) (g_X9_takeFrom_66_112_11_0 (Nat.zero_le _) ?_)
  have w1 := tfD_w (k := 10) (tfD_w (k := 9) (tfD_0 I 66 112) (by decide) (by decide) (fun _ h => h.elim)) (by decide) (by decide) (fun _ h => h.elim)
  refine xuse (s_X9_copied (z := (true, true, z)) (a0 := 129) (a1 := 83) (n := 6) rfl rfl rfl rfl rfl (by decide) rfl rfl (by decide)) (by decide) ?_
  rintro _ _ ⟨rfl, rfl⟩
  have w2 := tfD_c (o := 17) (n := 6) w1 (by decide) (by decide) (by decide) (by decide)
  refine g_X9_takeFrom_66_112_11_27 (Nat.zero_le _) ?_
  refine xuse (s_X9_copied (z := (true, true, z)) (a0 := 130) (a1 := 84) (n := 6) rfl rfl rfl rfl rfl (by decide) rfl rfl (by decide)) (by decide) ?_
  rintro _ _ ⟨rfl, rfl⟩
  have w3 := tfD_c (o := 18) (n := 6) w2 (by decide) (by decide) (by decide) (by decide)
  refine g_X9_takeFrom_66_112_11_38 (Nat.zero_le _) ?_
  refine xuse (s_X9_copied (z := (true, true, z)) (a0 := 138) (a1 := 92) (n := 6) rfl rfl rfl rfl rfl (by decide) rfl rfl (by decide)) (by decide) ?_
  rintro _ _ ⟨rfl, rfl⟩
  have w4 := tfD_c (o := 26) (n := 6) w3 (by decide) (by decide) (by decide) (by decide)
  refine g_X9_takeFrom_66_112_11_49 (Nat.zero_le _) ?_
  refine xuse (s_X9_copied (z := (true, true, z)) (a0 := 139) (a1 := 93) (n := 6) rfl rfl rfl rfl rfl (by decide) rfl rfl (by decide)) (by decide) ?_
  rintro _ _ ⟨rfl, rfl⟩
  have w5 := tfD_c (o := 27) (n := 6) w4 (by decide) (by decide) (by decide) (by decide)
  refine g_X9_takeFrom_66_112_11_60 (Nat.zero_le _) (g_X9_takeFrom_66_112_11_60x w5 (fun o => by
    constructor <;> (intro h; simp only [false_or] at h ⊢; omega)))
theorem g_X9_takeFrom_158_66_11_60x {I K0 : xI} {L : xL} {z : Nat} {D : Nat → Prop} (w0 : tfD I K0 158 66 D (fun k => ((False ∨ k = 9) ∨ k = 10))) (hD : ∀ o, D o ↔ (o = 17 ∨ o = 18 ∨ o = 26 ∨ o = 27)) : h_X9_takeFrom_158_66_11_62 1 (fun r τ => r = none ∧ ∃ K, τ = xS K L (true, true, z) ∧ xTf I K 158 66) (0, 0) K0 L z 0 := by
  have al : ∀ p, p < 6 → (xalive (112, bif ((true, true, z) : Bool × Bool × Nat).1 then 158 else 112, bif ((true, true, z) : Bool × Bool × Nat).2.1 then 204 else 158) (66 + (20 + p)) = true ∧ xalive (112, bif ((true, true, z) : Bool × Bool × Nat).1 then 158 else 112, bif ((true, true, z) : Bool × Bool × Nat).2.1 then 204 else 158) (158 + (20 + p)) = true ∧ xkind (66 + (20 + p)) = 20 ∧ xkind (158 + (20 + p)) = 20 ∧ Nat.blt 8 (158 + (20 + p)) = true ∧ xlen z (66 + (20 + p)) = 4 ∧ xlen z (158 + (20 + p)) = 4) ∧ (xalive (112, bif ((true, true, z) : Bool × Bool × Nat).1 then 158 else 112, bif ((true, true, z) : Bool × Bool × Nat).2.1 then 204 else 158) (66 + (29 + p)) = true ∧ xalive (112, bif ((true, true, z) : Bool × Bool × Nat).1 then 158 else 112, bif ((true, true, z) : Bool × Bool × Nat).2.1 then 204 else 158) (158 + (29 + p)) = true ∧ xkind (66 + (29 + p)) = 20 ∧ xkind (158 + (29 + p)) = 20 ∧ Nat.blt 8 (158 + (29 + p)) = true ∧ xlen z (66 + (29 + p)) = 4 ∧ xlen z (158 + (29 + p)) = 4) := by
    intro p hp
    have hp : p = 0 ∨ p = 1 ∨ p = 2 ∨ p = 3 ∨ p = 4 ∨ p = 5 := by omega
    rcases hp with rfl | rfl | rfl | rfl | rfl | rfl <;> exact ⟨⟨rfl, rfl, rfl, rfl, rfl, rfl, rfl⟩, ⟨rfl, rfl, rfl, rfl, rfl, rfl, rfl⟩⟩
  have key : ∀ p, p ≤ 6 → ∀ K : xI, tfD I K 158 66 (fun o => o = 17 ∨ o = 18 ∨ o = 26 ∨ o = 27 ∨ (20 ≤ o ∧ o < 20 + p) ∨ (29 ≤ o ∧ o < 29 + p)) (fun k => k = 9 ∨ k = 10) → h_X9_takeFrom_158_66_11_62 1 (fun r τ => r = none ∧ ∃ K, τ = xS K L (true, true, z) ∧ xTf I K 158 66) (0, 0) K L z (Int32.ofNat p) := by
    refine xcount _ 6 ?_ ?_
    · intro p hp KK K w
      refine g_X9_takeFrom_158_66_11_62 (Nat.zero_le _) ?_
      obtain ⟨⟨a1, a2, a3, a4, a5, a6, a7⟩, ⟨b1, b2, b3, b4, b5, b6, b7⟩⟩ := al p hp
      rw [if_pos (show Int32.ofNat p < (6 : Int32) from (xv_lt (b := 6) (by omega) (by decide)).mpr hp), if_pos ((xv_in (by omega)).mpr hp), xv_clamp (by omega), show 85 + 1 + p = 66 + (20 + p) from by omega, show 177 + 1 + p = 158 + (20 + p) from by omega]
      refine xuse (s_X9_copied (z := (true, true, z)) (n := 4) a1 a3 a2 a4 a5 (by omega) a6 a7 (by decide)) (by decide) ?_
      rintro _ _ ⟨rfl, rfl⟩
      have w2 := tfD_c (o := 20 + p) (n := 4) w (by decide) (by omega) (by omega) (by unfold tfl; rw [if_neg (by omega)]; omega)
      refine g_X9_takeFrom_158_66_11_83 (Nat.zero_le _) ?_
      rw [if_pos ((xv_in (by omega)).mpr hp), xv_clamp (by omega), show 94 + 1 + p = 66 + (29 + p) from by omega, show 186 + 1 + p = 158 + (29 + p) from by omega]
      refine xuse (s_X9_copied (z := (true, true, z)) (n := 4) b1 b3 b2 b4 b5 (by omega) b6 b7 (by decide)) (by decide) ?_
      rintro _ _ ⟨rfl, rfl⟩
      have w3 := tfD_c (o := 29 + p) (n := 4) w2 (by decide) (by omega) (by omega) (by unfold tfl; rw [if_neg (by omega)]; omega)
      refine g_X9_takeFrom_158_66_11_98 (Nat.zero_le _) ?_
      rw [show Int32.ofNat p + 1 = Int32.ofNat (p + 1) from xv_add p 1]
      exact KK _ (tfD_mono w3 (fun o h => by omega) (fun k h => h))
    · intro K w
      refine g_X9_takeFrom_158_66_11_62 (Nat.zero_le _) ?_
      rw [if_neg (show ¬ Int32.ofNat 6 < (6 : Int32) from by decide)]
      have w2 := tfD_w (k := 17) w (by decide) (by decide) (fun o h => by omega)
      refine xuse (s_X9_copied (z := (true, true, z)) (a0 := 101) (a1 := 193) (n := 4) rfl rfl rfl rfl rfl (by decide) rfl rfl (by decide)) (by decide) ?_
      rintro _ _ ⟨rfl, rfl⟩
      have w3 := tfD_c (o := 35) (n := 4) w2 (by decide) (by decide) (by decide) (by decide)
      refine g_X9_takeFrom_158_66_11_123 (Nat.zero_le _) ?_
      refine xuse (s_X9_copied (z := (true, true, z)) (a0 := 102) (a1 := 194) (n := 4) rfl rfl rfl rfl rfl (by decide) rfl rfl (by decide)) (by decide) ?_
      rintro _ _ ⟨rfl, rfl⟩
      have w4 := tfD_c (o := 36) (n := 4) w3 (by decide) (by decide) (by decide) (by decide)
      refine g_X9_takeFrom_158_66_11_134 (Nat.zero_le _) ⟨rfl, _, rfl, ?_⟩
      have w5 := tfD_w (k := 20) w4 (by decide) (by decide) (fun o h => by omega)
      exact tfD_mono w5 (fun o h => by omega) (fun k h => by omega)
  exact key 0 (Nat.zero_le _) K0 (tfD_mono w0 (fun o h => (hD o).mpr (by omega)) (fun k h => by
    rcases h with h | h
    · exact Or.inl (Or.inr h)
    · exact Or.inr h))
theorem t_from_158_66_11 {I : xI} {L : xL} {z : Nat} : xCd 2 295 [.ref 158, .ref 66] (xS I L (true, true, z)) (fun r τ => r = none ∧ ∃ K, τ = xS K L (true, true, z) ∧ xTf I K 158 66) := by
  refine c_X9_takeFrom_158_66_11 (d := 1) (g_X9_takeFrom_158_66_11_0 (Nat.zero_le _) ?_)
  have w1 := tfD_w (k := 10) (tfD_w (k := 9) (tfD_0 I 158 66) (by decide) (by decide) (fun _ h => h.elim)) (by decide) (by decide) (fun _ h => h.elim)
  refine xuse (s_X9_copied (z := (true, true, z)) (a0 := 83) (a1 := 175) (n := 6) rfl rfl rfl rfl rfl (by decide) rfl rfl (by decide)) (by decide) ?_
  rintro _ _ ⟨rfl, rfl⟩
  have w2 := tfD_c (o := 17) (n := 6) w1 (by decide) (by decide) (by decide) (by decide)
  refine g_X9_takeFrom_158_66_11_27 (Nat.zero_le _) ?_
  refine xuse (s_X9_copied (z := (true, true, z)) (a0 := 84) (a1 := 176) (n := 6) rfl rfl rfl rfl rfl (by decide) rfl rfl (by decide)) (by decide) ?_
  rintro _ _ ⟨rfl, rfl⟩
  have w3 := tfD_c (o := 18) (n := 6) w2 (by decide) (by decide) (by decide) (by decide)
  refine g_X9_takeFrom_158_66_11_38 (Nat.zero_le _) ?_
  refine xuse (s_X9_copied (z := (true, true, z)) (a0 := 92) (a1 := 184) (n := 6) rfl rfl rfl rfl rfl (by decide) rfl rfl (by decide)) (by decide) ?_
  rintro _ _ ⟨rfl, rfl⟩
  have w4 := tfD_c (o := 26) (n := 6) w3 (by decide) (by decide) (by decide) (by decide)
  refine g_X9_takeFrom_158_66_11_49 (Nat.zero_le _) ?_
  refine xuse (s_X9_copied (z := (true, true, z)) (a0 := 93) (a1 := 185) (n := 6) rfl rfl rfl rfl rfl (by decide) rfl rfl (by decide)) (by decide) ?_
  rintro _ _ ⟨rfl, rfl⟩
  have w5 := tfD_c (o := 27) (n := 6) w4 (by decide) (by decide) (by decide) (by decide)
  refine g_X9_takeFrom_158_66_11_60 (Nat.zero_le _) (g_X9_takeFrom_158_66_11_60x w5 (fun o => by
    constructor <;> (intro h; simp only [false_or] at h ⊢; omega)))
theorem g_X9_takeFrom_66_158_11_60x {I K0 : xI} {L : xL} {z : Nat} {D : Nat → Prop} (w0 : tfD I K0 66 158 D (fun k => ((False ∨ k = 9) ∨ k = 10))) (hD : ∀ o, D o ↔ (o = 17 ∨ o = 18 ∨ o = 26 ∨ o = 27)) : h_X9_takeFrom_66_158_11_62 1 (fun r τ => r = none ∧ ∃ K, τ = xS K L (true, true, z) ∧ xTf I K 66 158) (0, 0) K0 L z 0 := by
  have al : ∀ p, p < 6 → (xalive (112, bif ((true, true, z) : Bool × Bool × Nat).1 then 158 else 112, bif ((true, true, z) : Bool × Bool × Nat).2.1 then 204 else 158) (158 + (20 + p)) = true ∧ xalive (112, bif ((true, true, z) : Bool × Bool × Nat).1 then 158 else 112, bif ((true, true, z) : Bool × Bool × Nat).2.1 then 204 else 158) (66 + (20 + p)) = true ∧ xkind (158 + (20 + p)) = 20 ∧ xkind (66 + (20 + p)) = 20 ∧ Nat.blt 8 (66 + (20 + p)) = true ∧ xlen z (158 + (20 + p)) = 4 ∧ xlen z (66 + (20 + p)) = 4) ∧ (xalive (112, bif ((true, true, z) : Bool × Bool × Nat).1 then 158 else 112, bif ((true, true, z) : Bool × Bool × Nat).2.1 then 204 else 158) (158 + (29 + p)) = true ∧ xalive (112, bif ((true, true, z) : Bool × Bool × Nat).1 then 158 else 112, bif ((true, true, z) : Bool × Bool × Nat).2.1 then 204 else 158) (66 + (29 + p)) = true ∧ xkind (158 + (29 + p)) = 20 ∧ xkind (66 + (29 + p)) = 20 ∧ Nat.blt 8 (66 + (29 + p)) = true ∧ xlen z (158 + (29 + p)) = 4 ∧ xlen z (66 + (29 + p)) = 4) := by
    intro p hp
    have hp : p = 0 ∨ p = 1 ∨ p = 2 ∨ p = 3 ∨ p = 4 ∨ p = 5 := by omega
    rcases hp with rfl | rfl | rfl | rfl | rfl | rfl <;> exact ⟨⟨rfl, rfl, rfl, rfl, rfl, rfl, rfl⟩, ⟨rfl, rfl, rfl, rfl, rfl, rfl, rfl⟩⟩
  have key : ∀ p, p ≤ 6 → ∀ K : xI, tfD I K 66 158 (fun o => o = 17 ∨ o = 18 ∨ o = 26 ∨ o = 27 ∨ (20 ≤ o ∧ o < 20 + p) ∨ (29 ≤ o ∧ o < 29 + p)) (fun k => k = 9 ∨ k = 10) → h_X9_takeFrom_66_158_11_62 1 (fun r τ => r = none ∧ ∃ K, τ = xS K L (true, true, z) ∧ xTf I K 66 158) (0, 0) K L z (Int32.ofNat p) := by
    refine xcount _ 6 ?_ ?_
    · intro p hp KK K w
      refine g_X9_takeFrom_66_158_11_62 (Nat.zero_le _) ?_
      obtain ⟨⟨a1, a2, a3, a4, a5, a6, a7⟩, ⟨b1, b2, b3, b4, b5, b6, b7⟩⟩ := al p hp
      rw [if_pos (show Int32.ofNat p < (6 : Int32) from (xv_lt (b := 6) (by omega) (by decide)).mpr hp), if_pos ((xv_in (by omega)).mpr hp), xv_clamp (by omega), show 177 + 1 + p = 158 + (20 + p) from by omega, show 85 + 1 + p = 66 + (20 + p) from by omega]
      refine xuse (s_X9_copied (z := (true, true, z)) (n := 4) a1 a3 a2 a4 a5 (by omega) a6 a7 (by decide)) (by decide) ?_
      rintro _ _ ⟨rfl, rfl⟩
      have w2 := tfD_c (o := 20 + p) (n := 4) w (by decide) (by omega) (by omega) (by unfold tfl; rw [if_neg (by omega)]; omega)
      refine g_X9_takeFrom_66_158_11_83 (Nat.zero_le _) ?_
      rw [if_pos ((xv_in (by omega)).mpr hp), xv_clamp (by omega), show 186 + 1 + p = 158 + (29 + p) from by omega, show 94 + 1 + p = 66 + (29 + p) from by omega]
      refine xuse (s_X9_copied (z := (true, true, z)) (n := 4) b1 b3 b2 b4 b5 (by omega) b6 b7 (by decide)) (by decide) ?_
      rintro _ _ ⟨rfl, rfl⟩
      have w3 := tfD_c (o := 29 + p) (n := 4) w2 (by decide) (by omega) (by omega) (by unfold tfl; rw [if_neg (by omega)]; omega)
      refine g_X9_takeFrom_66_158_11_98 (Nat.zero_le _) ?_
      rw [show Int32.ofNat p + 1 = Int32.ofNat (p + 1) from xv_add p 1]
      exact KK _ (tfD_mono w3 (fun o h => by omega) (fun k h => h))
    · intro K w
      refine g_X9_takeFrom_66_158_11_62 (Nat.zero_le _) ?_
      rw [if_neg (show ¬ Int32.ofNat 6 < (6 : Int32) from by decide)]
      have w2 := tfD_w (k := 17) w (by decide) (by decide) (fun o h => by omega)
      refine xuse (s_X9_copied (z := (true, true, z)) (a0 := 193) (a1 := 101) (n := 4) rfl rfl rfl rfl rfl (by decide) rfl rfl (by decide)) (by decide) ?_
      rintro _ _ ⟨rfl, rfl⟩
      have w3 := tfD_c (o := 35) (n := 4) w2 (by decide) (by decide) (by decide) (by decide)
      refine g_X9_takeFrom_66_158_11_123 (Nat.zero_le _) ?_
      refine xuse (s_X9_copied (z := (true, true, z)) (a0 := 194) (a1 := 102) (n := 4) rfl rfl rfl rfl rfl (by decide) rfl rfl (by decide)) (by decide) ?_
      rintro _ _ ⟨rfl, rfl⟩
      have w4 := tfD_c (o := 36) (n := 4) w3 (by decide) (by decide) (by decide) (by decide)
      refine g_X9_takeFrom_66_158_11_134 (Nat.zero_le _) ⟨rfl, _, rfl, ?_⟩
      have w5 := tfD_w (k := 20) w4 (by decide) (by decide) (fun o h => by omega)
      exact tfD_mono w5 (fun o h => by omega) (fun k h => by omega)
  exact key 0 (Nat.zero_le _) K0 (tfD_mono w0 (fun o h => (hD o).mpr (by omega)) (fun k h => by
    rcases h with h | h
    · exact Or.inl (Or.inr h)
    · exact Or.inr h))
theorem t_from_66_158_11 {I : xI} {L : xL} {z : Nat} : xCd 2 295 [.ref 66, .ref 158] (xS I L (true, true, z)) (fun r τ => r = none ∧ ∃ K, τ = xS K L (true, true, z) ∧ xTf I K 66 158) := by
  refine c_X9_takeFrom_66_158_11 (d := 1) (g_X9_takeFrom_66_158_11_0 (Nat.zero_le _) ?_)
  have w1 := tfD_w (k := 10) (tfD_w (k := 9) (tfD_0 I 66 158) (by decide) (by decide) (fun _ h => h.elim)) (by decide) (by decide) (fun _ h => h.elim)
  refine xuse (s_X9_copied (z := (true, true, z)) (a0 := 175) (a1 := 83) (n := 6) rfl rfl rfl rfl rfl (by decide) rfl rfl (by decide)) (by decide) ?_
  rintro _ _ ⟨rfl, rfl⟩
  have w2 := tfD_c (o := 17) (n := 6) w1 (by decide) (by decide) (by decide) (by decide)
  refine g_X9_takeFrom_66_158_11_27 (Nat.zero_le _) ?_
  refine xuse (s_X9_copied (z := (true, true, z)) (a0 := 176) (a1 := 84) (n := 6) rfl rfl rfl rfl rfl (by decide) rfl rfl (by decide)) (by decide) ?_
  rintro _ _ ⟨rfl, rfl⟩
  have w3 := tfD_c (o := 18) (n := 6) w2 (by decide) (by decide) (by decide) (by decide)
  refine g_X9_takeFrom_66_158_11_38 (Nat.zero_le _) ?_
  refine xuse (s_X9_copied (z := (true, true, z)) (a0 := 184) (a1 := 92) (n := 6) rfl rfl rfl rfl rfl (by decide) rfl rfl (by decide)) (by decide) ?_
  rintro _ _ ⟨rfl, rfl⟩
  have w4 := tfD_c (o := 26) (n := 6) w3 (by decide) (by decide) (by decide) (by decide)
  refine g_X9_takeFrom_66_158_11_49 (Nat.zero_le _) ?_
  refine xuse (s_X9_copied (z := (true, true, z)) (a0 := 185) (a1 := 93) (n := 6) rfl rfl rfl rfl rfl (by decide) rfl rfl (by decide)) (by decide) ?_
  rintro _ _ ⟨rfl, rfl⟩
  have w5 := tfD_c (o := 27) (n := 6) w4 (by decide) (by decide) (by decide) (by decide)
  refine g_X9_takeFrom_66_158_11_60 (Nat.zero_le _) (g_X9_takeFrom_66_158_11_60x w5 (fun o => by
    constructor <;> (intro h; simp only [false_or] at h ⊢; omega)))
