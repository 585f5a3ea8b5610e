/-! promises: both sides answer alike, and stay alike -/
/-- a refusal: the class counts it, then the reference -/
def xRf (I : xI) (k : Nat) : xI := xw (xrfu I (-(Int32.ofNat k))) 82 k (xrfu I (-(Int32.ofNat k)) 82 k + 1)
theorem xrfu_at {I : xI} {k : Nat} (h1 : 2 ≤ k) (h2 : k ≤ 6) : xrfu I (-(Int32.ofNat k)) = xw I 65 (k - 2) (I 65 (k - 2) + 1) := by
  have hk : k = 2 ∨ k = 3 ∨ k = 4 ∨ k = 5 ∨ k = 6 := by omega
  obtain rfl | rfl | rfl | rfl | rfl := hk <;> rfl
theorem xBoth_frame {A : xAb} {I J : xI} {L M : xL} {z : Bool × Bool × Nat} (h : xBoth A I L z)
    (hx : ∀ o, (10 ≤ o ∧ o ≤ 27) ∨ o = 58 ∨ o = 59 ∨ o = 61 ∨ o = 62 ∨ (67 ≤ o ∧ o ≤ 69) ∨ o = 66 ∨ o = 80 ∨ o = 81 ∨ (83 ≤ o ∧ o ≤ 102) ∨ (112 ≤ o ∧ o ≤ 148) ∨ o = 9 → ∀ k, J o k = I o k)
    (hr : ∀ i, i < 5 → J 65 i = J 82 (i + 2))
    (hl : ∀ o, o = 60 ∨ (71 ≤ o ∧ o ≤ 78) → ∀ k, M o k = L o k) : xBoth A J M z := by
  obtain ⟨h0, h1, h2, h3, h4, h5, h6, h7⟩ := h
  refine ⟨h0, ?_, ?_, ?_, hr, ?_, ?_, ?_⟩
  · exact xTX_congr (fun o a b k => hx o (by omega) k) h1
  · exact xTM_congr (hx 66 (by omega) 9) (hx 66 (by omega) 10) (hx 66 (by omega) 17) (hx 66 (by omega) 20) (fun o a b k => hx o (by omega) k) h2
  · intro s hs
    have e := h3 s hs
    unfold xShM at e ⊢
    rw [hx 58 (by omega), hx 59 (by omega), hx 67 (by omega), hx 68 (by omega), hx 69 (by omega), hx 80 (by omega), hx 10 (by omega)]
    rcases e with e | ⟨v, n, e1, e2, e3, e4, e5, e6, e7, e8⟩ | e
    · exact Or.inl e
    · exact Or.inr (Or.inl ⟨v, n, e1, e2, e3, e4, e5, e6, e7, fun i hi => by rw [hl 60 (by omega), hl (71 + s) (by omega)]; exact e8 i hi⟩)
    · exact Or.inr (Or.inr e)
  · obtain ⟨n, a, b, c, e⟩ := h5
    refine ⟨n, a, ?_, ?_, ?_⟩
    · rw [hx 61 (by omega)]; exact b
    · rw [hx 66 (by omega)]; exact c
    · intro i hi; rw [hx 62 (by omega), hx 81 (by omega)]; exact e i hi
  · rw [hx 9 (by omega)]; exact h6
  · intro hz
    obtain ⟨B, a, b, c⟩ := h7 hz
    exact ⟨B, a, xTX_congr (fun o a b k => hx o (by omega) k) b, xTM_congr (hx 112 (by omega) 9) (hx 112 (by omega) 10) (hx 112 (by omega) 17) (hx 112 (by omega) 20) (fun o a b k => hx o (by omega) k) c⟩
theorem xBoth_refuse {A : xAb} {I : xI} {L : xL} {z : Bool × Bool × Nat} {k : Nat} (h1 : 2 ≤ k) (h2 : k ≤ 6) (h : xBoth A I L z) : xBoth A (xRf I k) L z := by
  have hr := h.2.2.2.2.1
  refine xBoth_frame h ?_ ?_ (fun o _ k => rfl)
  · intro o ho j
    unfold xRf
    rw [xrfu_at h1 h2, xw_ne1 (by omega), xw_ne1 (by omega)]
  · intro i hi
    unfold xRf
    rw [xrfu_at h1 h2]
    rw [xw_ne1 (o' := 65) (by decide)]
    by_cases e : i = k - 2
    · subst e
      rw [xw_eq, show k - 2 + 2 = k from by omega, xw_eq, xw_ne1 (by decide)]
      have := hr (k - 2) hi
      rw [show k - 2 + 2 = k from by omega] at this
      rw [this]
    · rw [xw_ne2 e, xw_ne2 (by omega), xw_ne1 (by decide)]
      exact hr i hi
/-- a promise: for what stands, class and reference answer alike, and it stands again -/
def xPr (d cx cm : Nat) (args : List Value) : Prop := ∀ (A : xAb) (I : xI) (L : xL) (z : Bool × Bool × Nat), xBoth A I L z → xCd d cx (.ref 9 :: args) (xS I L z) (fun r τ => xCd d cm (.ref 66 :: args) τ (fun r' τ' => r' = r ∧ ∃ A' I' L' z', τ' = xS I' L' z' ∧ xBoth A' I' L' z'))
theorem pr_wipe : xPr 5 149 221 [] := by
  intro A I L z h
  refine xupD (c_X8_wipe ?_) (by decide)
  refine xupD (c_X9_wipe ?_) (by decide)
  have h0 := h
  obtain ⟨_, _, _, _, hr, ⟨n, n1, n2, n3, n4⟩, _, _⟩ := h0
  refine ⟨?_, A, _, _, _, rfl, ?_⟩
  · rw [xw_ne1 (by decide), n2, n3]
  · obtain ⟨q0, q1, q2, q3, q4, q5, q6, q7⟩ := h
    refine ⟨q0, ?_, ?_, ?_, ?_, ?_, ?_, ?_⟩
    · exact xTX_congr (fun o a b k => by rw [xw_ne1 (by omega), xw_ne1 (by omega)]) q1
    · exact xTM_congr (by rw [xw_ne2 (by decide), xw_ne1 (by decide)]) (by rw [xw_ne2 (by decide), xw_ne1 (by decide)]) (by rw [xw_ne2 (by decide), xw_ne1 (by decide)]) (by rw [xw_ne2 (by decide), xw_ne1 (by decide)]) (fun o a b k => by rw [xw_ne1 (by omega), xw_ne1 (by omega)]) q2
    · exact q3
    · exact q4
    · exact ⟨0, by decide, rfl, rfl, fun i hi => absurd hi (Nat.not_lt_zero _)⟩
    · exact q6
    · intro hz
      obtain ⟨B, a, b, c⟩ := q7 hz
      exact ⟨B, a, xTX_congr (fun o a b k => by rw [xw_ne1 (by omega), xw_ne1 (by omega)]) b, xTM_congr (by rw [xw_ne1 (by decide), xw_ne1 (by decide)]) (by rw [xw_ne1 (by decide), xw_ne1 (by decide)]) (by rw [xw_ne1 (by decide), xw_ne1 (by decide)]) (by rw [xw_ne1 (by decide), xw_ne1 (by decide)]) (fun o a b k => by rw [xw_ne1 (by omega), xw_ne1 (by omega)]) c⟩
