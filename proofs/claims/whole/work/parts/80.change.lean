/-! a call that changes the state: its tray on the class's side, its own cells on the reference's -/
def scrXt : Nat → Nat → Prop := fun o k => scrX o k ∨ (10 ≤ o ∧ o ≤ 18)
def scrMt : Nat → Nat → Prop := fun o k => scrM o k ∨ (o = 66 ∧ (k = 9 ∨ k = 10 ∨ k = 17 ∨ k = 20)) ∨ (83 ≤ o ∧ o ≤ 102)
def oXc (c : Nat) (B : xAb) (I : xI) (L : xL) (z : Bool × Bool × Nat) (v : Int32) : xQ := fun r τ => r = some (.int v) ∧ ∃ J, τ = xS J L z ∧ xsm scrXt I J ∧ xTX J 10 B ∧ (∀ t, t < 4 → Int32.ofNat t < I 10 4 → Int32.ofNat t < J 10 4) ∧ xCache B J ∧ ∃ t, t ≤ 64 * (c + 1) ∧ xTal t J
def oMc (B : xAb) (I : xI) (L : xL) (z : Bool × Bool × Nat) (v : Int32) : xQ := fun r τ => r = some (.int v) ∧ ∃ J, τ = xS J L z ∧ xsm scrMt I J ∧ xTM J 66 B
theorem pr_c {cx cm : Nat} {args : List Value} {c : Nat} {A : xAb} {I : xI} {L : xL} {z : Bool × Bool × Nat} (h : xInv c A I L z) (B : xAb) (hB : abOK B) (v : Int32) (hx : xCd 30 cx (.ref 9 :: args) (xS I L z) (oXc c B I L z v)) (hm : ∀ J, xsm scrXt I J → xTX J 10 B → xTM J 66 A → xCd 30 cm (.ref 66 :: args) (xS J L z) (oMc B J L z v)) : xCd 30 cx (.ref 9 :: args) (xS I L z) (fun r τ => xCd 30 cm (.ref 66 :: args) τ (fun r' τ' => r' = r ∧ ∃ A' I' L' z', τ' = xS I' L' z' ∧ xInv (c + 1) A' I' L' z')) := by
  obtain ⟨hb, hs, ha, hc, ht⟩ := h
  refine xuse hx (Nat.le_refl _) ?_
  rintro r τ ⟨rfl, J, rfl, hJ, jX, j4, jc, t, t1, t2⟩
  refine xuse (hm J hJ jX (xTM_sm hJ (by unfold scrXt scrX; omega) (fun o a b k => by unfold scrXt scrX; omega) hb.2.2.1)) (Nat.le_refl _) ?_
  rintro r' τ' ⟨rfl, K, rfl, hK, kM⟩
  have g : ∀ o k, ¬ (scrXt o k ∨ scrMt o k) → K o k = I o k := fun o k q => (hK o k (fun e => q (Or.inr e))).trans (hJ o k (fun e => q (Or.inl e)))
  have g' : ∀ o k, ¬ ((10 ≤ o ∧ o ≤ 18) ∨ (28 ≤ o ∧ o ≤ 55) ∨ (o = 61 ∧ 1 ≤ k) ∨ o = 63 ∨ o = 64 ∨ (o = 66 ∧ (23 ≤ k ∨ k = 9 ∨ k = 10 ∨ k = 17 ∨ k = 20)) ∨ o = 79 ∨ (83 ≤ o ∧ o ≤ 111) ∨ 158 ≤ o) → K o k = I o k := fun o k q => g o k (fun e => q (by unfold scrXt scrMt scrX scrM at e; omega))
  have hIK : xsm (fun o k => scrXt o k ∨ scrMt o k) I K := g
  obtain ⟨h0, h1, h2, h3, h4, h5, h6, h7⟩ := hb
  refine ⟨rfl, B, K, L, z, rfl, ⟨hB, ?_, kM, ?_, ?_, ?_, ?_, ?_⟩, ?_, ?_, ?_, t, t1, ?_⟩
  · exact xTX_sm hK (fun k hk => by unfold scrMt scrM; omega) (fun o a b k => by unfold scrMt scrM; omega) jX
  · intro s hs
    have e := h3 s hs
    unfold xShM at e ⊢
    rw [g' 58 s (by omega), g' 59 s (by omega), g' 67 s (by omega), g' 68 s (by omega), g' 69 s (by omega), g' 80 s (by omega), hK 10 4 (by unfold scrMt scrM; omega)]
    rcases e with e | e | ⟨t, e1, e2, e3⟩
    · exact Or.inl e
    · exact Or.inr (Or.inl e)
    · exact Or.inr (Or.inr ⟨t, e1, j4 t e1 e2, e3⟩)
  · intro i hi; rw [g' 65 i (by omega), g' 82 _ (by omega)]; exact h4 i hi
  · obtain ⟨n, a, b, d, e⟩ := h5
    refine ⟨n, a, ?_, ?_, ?_⟩
    · rw [g' 61 0 (by omega)]; exact b
    · rw [g' 66 7 (by omega)]; exact d
    · intro i hi; rw [g' 62 i (by omega), g' 81 i (by omega)]; exact e i hi
  · rw [g' 9 11 (by omega)]; exact h6
  · intro hz
    obtain ⟨C, a, b, d⟩ := h7 hz
    exact ⟨C, a, xTX_sm hIK (fun k hk => by unfold scrXt scrMt scrX scrM; omega) (fun o a b k => by unfold scrXt scrMt scrX scrM; omega) b, xTM_sm hIK (by unfold scrXt scrMt scrX scrM; omega) (fun o a b k => by unfold scrXt scrMt scrX scrM; omega) d⟩
  · exact xShf_sm hIK (fun k => by unfold scrXt scrMt scrX scrM; omega) hs
  · exact xAbv_sm hIK (fun k => by unfold scrXt scrMt scrX scrM; omega) ha
  · exact xCache_sm hK (fun o k e => by unfold scrMt scrM at e; unfold noC; omega) jc
  · exact xTal_sm hK (fun o k e => by unfold scrMt scrM at e; omega) t2
theorem scrX_Xt : ∀ o k, scrX o k → scrXt o k := fun o k e => Or.inl e
theorem scrM_Mt : ∀ o k, scrM o k → scrMt o k := fun o k e => Or.inl e
/-- the numbers of a sort -/
def ab_sortTo (A : xAb) (s l v : Nat) : xAb := (A.1, A.2.1, A.2.2.1, (fun s' l' => if s' = s ∧ l' = l then v else ab_mark A s' l'), A.2.2.2.2)
theorem xTX_sort {I : xI} {t s l v : Nat} {A : xAb} (hl : l < 3) (q : xTX I t A) : xTX (xw I (t + 3) (s * 3 + l) (Int32.ofNat v)) t (ab_sortTo A s l v) := by
  obtain ⟨⟨q1, q2, q3, q4, q5⟩, q6, q7, q8, q9, q10, q11, q12⟩ := q
  refine ⟨⟨?_, ?_, ?_, ?_, ?_⟩, ?_, ?_, ?_, ?_, ?_, ?_, ?_⟩
  · rw [xw_ne1 (by omega)]; exact q1
  · rw [xw_ne1 (by omega)]; exact q2
  · rw [xw_ne1 (by omega)]; exact q3
  · rw [xw_ne1 (by omega)]; exact q4
  · rw [xw_ne1 (by omega)]; exact q5
  · intro k hk; rw [xw_ne1 (by omega)]; exact q6 k hk
  · intro k hk; rw [xw_ne1 (by omega)]; exact q7 k hk
  · intro s' hs l' hl'
    show _ = Int32.ofNat (if s' = s ∧ l' = l then v else ab_mark A s' l')
    by_cases e : s' = s ∧ l' = l
    · rw [if_pos e, e.1, e.2, xw_eq]
    · rw [if_neg e, xw_ne2 (by omega)]; exact q8 s' hs l' hl'
  · intro k hk; rw [xw_ne1 (by omega)]; exact q9 k hk
  · intro k hk; rw [xw_ne1 (by omega)]; exact q10 k hk
  · intro k hk; rw [xw_ne1 (by omega)]; exact q11 k hk
  · intro k hk; rw [xw_ne1 (by omega), xw_ne1 (by omega)]; exact q12 k hk
theorem xTM_sort {I : xI} {t s l v : Nat} {A : xAb} (hs : s < 6) (hl : l < 3) (q : xTM I t A) : xTM (xw I (t + 20 + s) l (Int32.ofNat v)) t (ab_sortTo A s l v) := by
  obtain ⟨⟨q1, q2, q3, q4⟩, q6, q7, q8, q9, q10, q11, q12⟩ := q
  refine ⟨⟨?_, ?_, ?_, ?_⟩, ?_, ?_, ?_, ?_, ?_, ?_, ?_⟩
  · rw [xw_ne1 (by omega)]; exact q1
  · rw [xw_ne1 (by omega)]; exact q2
  · rw [xw_ne1 (by omega)]; exact q3
  · rw [xw_ne1 (by omega)]; exact q4
  · intro k hk; rw [xw_ne1 (by omega)]; exact q6 k hk
  · intro k hk; rw [xw_ne1 (by omega)]; exact q7 k hk
  · intro s' hs'
    obtain ⟨q, r⟩ := q8 s' hs'
    refine ⟨fun l' hl' => ?_, by rw [xw_ne (by omega)]; exact r⟩
    show _ = Int32.ofNat (if s' = s ∧ l' = l then v else ab_mark A s' l')
    by_cases e : s' = s ∧ l' = l
    · rw [if_pos e, e.1, e.2, xw_eq]
    · rw [if_neg e, xw_ne (by omega)]; exact q l' hl'
  · intro k hk; rw [xw_ne1 (by omega)]; exact q9 k hk
  · intro k hk; rw [xw_ne1 (by omega)]; exact q10 k hk
  · intro p hp k hk; rw [xw_ne1 (by omega)]; exact q11 p hp k hk
  · intro k hk; rw [xw_ne1 (by omega), xw_ne1 (by omega)]; exact q12 k hk
/-- the worlds stand, the possible ones are old -/
theorem xCache_pos {A B : xAb} {I J : xI} (h : xCache A I) (hW : aW B = aW A) (h5 : J 10 5 = I 10 5) (h6 : J 10 6 = 1) (hf : ∀ o, 37 ≤ o ∧ o ≤ 38 → ∀ k, J o k = I o k) : xCache B J := by
  rcases h with h | ⟨a, b, d⟩
  · exact Or.inl (h5.trans h)
  · exact Or.inr ⟨h5.trans a, ⟨by rw [hf 37 (by omega), hW]; exact b.1, fun i hi => by rw [hf 38 (by omega), hW]; rw [hW] at hi; exact b.2 i hi⟩, Or.inl h6⟩
