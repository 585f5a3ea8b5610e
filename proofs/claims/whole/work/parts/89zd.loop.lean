/-! the law's loop -/
theorem xite2 {c : Prop} {_ : Decidable c} {A B : Prop} (ha : c → A) (hb : ¬ c → B) : if c then A else B := by
  by_cases h : c
  · rw [if_pos h]; exact ha h
  · rw [if_neg h]; exact hb h
def lwP (c : Nat) (τ : xH) : Prop := ∃ A I L z, τ = xS I L z ∧ xInv c A I L z
theorem lw_xS {I : xI} {L : xL} {z : Bool × Bool × Nat} : lwS z.2.2 (xS I L z) := by
  refine ⟨(by decide : 67 ≤ 112), ?_, ?_, rfl⟩
  · show 1 ≤ bif z.1 then 158 else 112
    cases z.1 <;> decide
  · show 1 ≤ bif z.2.1 then 204 else 158
    cases z.2.1 <;> decide
theorem law_loop {N : Nat} (hN : N ≤ 3072) : ∀ m c, c + m = 512 → ∀ (σ : xH) (b : Nat × Nat), lwP c σ → lwS N σ → 46 * m ≤ b.1 → 5872 * m ≤ b.2 → xEX k_L_law 2 (xCd 40) (fun r τ => r = some (.int 1)) 18 [some (.ref 0), some (.ref 9), some (.ref 66), some (.int (Int32.ofNat (6 * c)))] [] σ b := by
  intro m
  have n6 : (Int32.ofNat N - 6).toInt = (N : Int) - 6 := by
    have e : Int32.ofNat N - 6 = Int32.ofInt ((N : Int) - 6) := by
      rw [Int32.ofInt_sub]; rfl
    rw [e]
    exact Int32.toInt_ofInt_of_le (by show -(2147483648 : Int) ≤ _; omega) (by show _ < (2147483648 : Int); omega)
  have head : ∀ c (σ : xH) (b : Nat × Nat), c ≤ 512 → lwS N σ → (6 * c + 6 ≤ N → xEX k_L_law 2 (xCd 40) (fun r τ => r = some (.int 1)) 27 [some (.ref 0), some (.ref 9), some (.ref 66), some (.int (Int32.ofNat (6 * c)))] [] σ b) → xEX k_L_law 2 (xCd 40) (fun r τ => r = some (.int 1)) 18 [some (.ref 0), some (.ref 9), some (.ref 66), some (.int (Int32.ofNat (6 * c)))] [] σ b := by
    intro c σ b hc hs h
    refine xgo bl_head (xbifT (by rw [lw_al hs (by decide)]; rfl) ?_)
    have e : xlen σ.2.2.2.2 0 = N := hs.2.2.2
    rw [e]
    by_cases q : Int32.ofNat N - 6 < Int32.ofNat (6 * c)
    · rw [if_pos q]
      exact xgo bl_end rfl
    · rw [if_neg q]
      refine h ?_
      rw [Int32.lt_iff_toInt_lt, n6, xv_int (by omega)] at q
      omega
  induction m with
  | zero =>
    intro c hc σ b hP hs _ _
    refine head c σ b (by omega) hs (fun q => ?_)
    omega
  | succ m ih =>
    intro c hc σ b hP hs b1 b2
    refine head c σ b (by omega) hs (fun q => ?_)
    have hi : 6 * c + 6 ≤ N := q
    refine xgo bl_read (xbifT (lw_0 hs) ?_)
    have e : xlen σ.2.2.2.2 0 = N := hs.2.2.2
    rw [e, if_pos ((xv_in (by omega)).mpr (by omega))]
    generalize σ.1 0 (Int32.toNatClampNeg (Int32.ofNat (6 * c))) &&& 63 = x
    refine xgo bl_sw ?_
    obtain ⟨A, I, L, z, rfl, hI⟩ := hP
    have nxt : ∀ (τ : xH) (b' : Nat × Nat), lwP (c + 1) τ → lwS N τ → 46 * m ≤ b'.1 → 5872 * m ≤ b'.2 → xEX k_L_law 2 (xCd 40) (fun r τ => r = some (.int 1)) 1427 [some (.ref 0), some (.ref 9), some (.ref 66), some (.int (Int32.ofNat (6 * c)))] [] τ b' := by
      intro τ b' hP ht c1 c2
      refine xgo bl_next ?_
      rw [show Int32.ofNat (6 * c) + 6 = Int32.ofNat (6 * (c + 1)) from xv_add (6 * c) 6]
      exact ih (c + 1) (by omega) τ b' hP ht c1 c2
    have stay := nxt (xS I L z) b ⟨A, I, L, z, rfl, xInv_w hI⟩ hs (by omega) (by omega)
    refine xite2 (fun _ => ?_) (fun _ => ?_)
    · exact lc_0 (P := lwP (c + 1)) (by decide) hN hs hi (pr_row _ _ _ c A I L z (by omega) hI) (fun τ hP ht => nxt τ _ hP ht (by omega) (by omega))
    refine xite2 (fun _ => ?_) (fun _ => ?_)
    · exact lc_1 (P := lwP (c + 1)) (by decide) hN hs hi (pr_set _ _ _ c A I L z (by omega) hI) (fun τ hP ht => nxt τ _ hP ht (by omega) (by omega))
    refine xite2 (fun _ => ?_) (fun _ => ?_)
    · exact lc_2 (P := lwP (c + 1)) (by decide) hN hs hi (pr_copy _ _ _ _ _ c A I L z (by omega) hI) (fun τ hP ht => nxt τ _ hP ht (by omega) (by omega))
    refine xite2 (fun _ => ?_) (fun _ => ?_)
    · exact lc_3 (P := lwP (c + 1)) (by decide) hN hs hi (pq_element _ _ c A I L z (by omega) hI) (fun τ hP ht => nxt τ _ hP ht (by omega) (by omega))
    refine xite2 (fun _ => ?_) (fun _ => ?_)
    · exact lc_4 (P := lwP (c + 1)) (by decide) hN hs hi (pq_holds _ c A I L z (by omega) hI) (fun τ hP ht => nxt τ _ hP ht (by omega) (by omega))
    refine xite2 (fun _ => ?_) (fun _ => ?_)
    · exact lc_5 (P := lwP (c + 1)) (by decide) hN hs hi (pr_show _ _ c A I L z (by omega) hI) (fun τ hP ht => nxt τ _ hP ht (by omega) (by omega))
    refine xite2 (fun _ => ?_) (fun _ => ?_)
    · exact lc_6 (P := lwP (c + 1)) (by decide) hN hs hi (pr_says _ _ c A I L z (by omega) hI) (fun τ hP ht => nxt τ _ hP ht (by omega) (by omega))
    refine xite2 (fun _ => ?_) (fun _ => ?_)
    · exact lc_7 (P := lwP (c + 1)) (by decide) hN hs hi (pr_cups _ c A I L z (by omega) hI) (fun τ hP ht => nxt τ _ hP ht (by omega) (by omega))
    refine xite2 (fun _ => ?_) (fun _ => ?_)
    · exact lc_8 (P := lwP (c + 1)) (by decide) hN hs hi (pr_pour _ c A I L z (by omega) hI) (fun τ hP ht => nxt τ _ hP ht (by omega) (by omega))
    refine xite2 (fun _ => ?_) (fun _ => ?_)
    · exact lc_9 (P := lwP (c + 1)) (by decide) hN hs hi (pq_law _ c A I L z (by omega) hI) (fun τ hP ht => nxt τ _ hP ht (by omega) (by omega))
    refine xite2 (fun _ => ?_) (fun _ => ?_)
    · exact lc_10 (P := lwP (c + 1)) (by decide) hN hs hi (pr_sort _ _ _ c A I L z (by omega) hI) (fun τ hP ht => nxt τ _ hP ht (by omega) (by omega))
    refine xite2 (fun _ => ?_) (fun _ => ?_)
    · exact lc_11 (P := lwP (c + 1)) (by decide) hN hs hi (pq_guest _ _ _ c A I L z (by omega) hI) (fun τ hP ht => nxt τ _ hP ht (by omega) (by omega))
    refine xite2 (fun _ => ?_) (fun _ => ?_)
    · exact lc_12 (P := lwP (c + 1)) (by decide) hN hs hi (pr_teller _ _ c A I L z (by omega) hI) (fun τ hP ht => nxt τ _ hP ht (by omega) (by omega))
    refine xite2 (fun _ => ?_) (fun _ => ?_)
    · exact lc_13 (P := lwP (c + 1)) (by decide) hN hs hi (pr_sign _ _ _ c A I L z (by omega) hI) (fun τ hP ht => nxt τ _ hP ht (by omega) (by omega))
    refine xite2 (fun _ => ?_) (fun _ => ?_)
    · exact lc_14 (P := lwP (c + 1)) (by decide) hN hs hi (pr_forget  c A I L z (by omega) hI) (fun τ hP ht => nxt τ _ hP ht (by omega) (by omega))
    refine xite2 (fun _ => ?_) (fun _ => ?_)
    · exact lc_15 (P := lwP (c + 1)) (by decide) hN hs hi (pq_feed _ c A I L z (by omega) hI) (fun τ hP ht => nxt τ _ hP ht (by omega) (by omega))
    refine xite2 (fun _ => ?_) (fun _ => ?_)
    · exact lc_16 (P := lwP (c + 1)) (by decide) hN hs hi (pq_wipe  c A I L z (by omega) hI) (fun τ hP ht => nxt τ _ hP ht (by omega) (by omega))
    refine xite2 (fun _ => ?_) (fun _ => ?_)
    · exact lc_17 (P := lwP (c + 1)) (by decide) hN hs hi (by omega) (pr_stair  c A I L z (by omega) hI) (fun τ hP ht => nxt τ _ hP ht (by dsimp only; omega) (by dsimp only; omega))
    refine xite2 (fun _ => ?_) (fun _ => ?_)
    · exact lc_18 (P := lwP (c + 1)) (by decide) hN hs hi (pr_worlds _ c A I L z (by omega) hI) (fun τ hP ht => nxt τ _ hP ht (by omega) (by omega))
    refine xite2 (fun _ => ?_) (fun _ => ?_)
    · exact lc_19 (P := lwP (c + 1)) (by decide) hN hs hi (pr_world _ _ c A I L z (by omega) hI) (fun τ hP ht => nxt τ _ hP ht (by omega) (by omega))
    refine xite2 (fun _ => ?_) (fun _ => ?_)
    · exact lc_20 (P := lwP (c + 1)) (by decide) hN hs hi (pr_sorts _ c A I L z (by omega) hI) (fun τ hP ht => nxt τ _ hP ht (by omega) (by omega))
    refine xite2 (fun _ => ?_) (fun _ => ?_)
    · exact lc_21 (P := lwP (c + 1)) (by decide) hN hs hi (pr_likely _ _ c A I L z (by omega) hI) (fun τ hP ht => nxt τ _ hP ht (by omega) (by omega))
    refine xite2 (fun _ => ?_) (fun _ => ?_)
    · exact lc_22 (P := lwP (c + 1)) (by decide) hN hs hi (pr_known  c A I L z (by omega) hI) (fun τ hP ht => nxt τ _ hP ht (by omega) (by omega))
    refine xite2 (fun _ => ?_) (fun _ => ?_)
    · exact lc_23 (P := lwP (c + 1)) (by decide) hN hs hi (pr_split _ _ _ c A I L z (by omega) hI) (fun τ hP ht => nxt τ _ hP ht (by omega) (by omega))
    refine xite2 (fun _ => ?_) (fun _ => ?_)
    · exact lc_24 (P := lwP (c + 1)) (by decide) hN hs hi (pr_next _ c A I L z (by omega) hI) (fun τ hP ht => nxt τ _ hP ht (by omega) (by omega))
    refine xite2 (fun _ => ?_) (fun _ => ?_)
    · exact lc_25 (P := lwP (c + 1)) (by decide) hN hs hi (pr_fewest _ c A I L z (by omega) hI) (fun τ hP ht => nxt τ _ hP ht (by omega) (by omega))
    refine xite2 (fun _ => ?_) (fun _ => ?_)
    · exact lc_26 (P := lwP (c + 1)) (by decide) hN hs hi (pr_apart  c A I L z (by omega) hI) (fun τ hP ht => nxt τ _ hP ht (by omega) (by omega))
    refine xite2 (fun _ => ?_) (fun _ => ?_)
    · exact lc_27 (P := lwP (c + 1)) (by decide) hN hs hi (pr_marks _ c A I L z (by omega) hI) (fun τ hP ht => nxt τ _ hP ht (by omega) (by omega))
    refine xite2 (fun _ => ?_) (fun _ => ?_)
    · exact lc_28 (P := lwP (c + 1)) (by decide) hN hs hi (pr_judge _ c A I L z (by omega) hI) (fun τ hP ht => nxt τ _ hP ht (by omega) (by omega))
    refine xite2 (fun _ => ?_) (fun _ => ?_)
    · exact lc_29 (P := lwP (c + 1)) (by decide) hN hs hi (pr_handing _ _ c A I L z (by omega) hI) (fun τ hP ht => nxt τ _ hP ht (by omega) (by omega))
    refine xite2 (fun _ => ?_) (fun _ => ?_)
    · exact lc_30 (P := lwP (c + 1)) (by decide) hN hs hi (pr_best _ c A I L z (by omega) hI) (fun τ hP ht => nxt τ _ hP ht (by omega) (by omega))
    refine xite2 (fun _ => ?_) (fun _ => ?_)
    · exact lc_31 (P := lwP (c + 1)) (by decide) hN hs hi (pr_mind _ _ c A I L z (by omega) hI) (fun τ hP ht => nxt τ _ hP ht (by omega) (by omega))
    refine xite2 (fun _ => ?_) (fun _ => ?_)
    · exact lc_32 (P := lwP (c + 1)) (by decide) hN hs hi (pr_tells _ c A I L z (by omega) hI) (fun τ hP ht => nxt τ _ hP ht (by omega) (by omega))
    refine xite2 (fun _ => ?_) (fun _ => ?_)
    · exact lc_33 (P := lwP (c + 1)) (by decide) hN hs hi (pr_odd _ c A I L z (by omega) hI) (fun τ hP ht => nxt τ _ hP ht (by omega) (by omega))
    refine xite2 (fun _ => ?_) (fun _ => ?_)
    · exact lc_34 (P := lwP (c + 1)) (by decide) hN hs hi (pr_turned  c A I L z (by omega) hI) (fun τ hP ht => nxt τ _ hP ht (by omega) (by omega))
    refine xite2 (fun _ => ?_) (fun _ => ?_)
    · exact lc_35 (P := lwP (c + 1)) (by decide) hN hs hi (pr_look _ _ c A I L z (by omega) hI) (fun τ hP ht => nxt τ _ hP ht (by omega) (by omega))
    refine xite2 (fun _ => ?_) (fun _ => ?_)
    · exact lc_36 (P := lwP (c + 1)) (by decide) hN hs hi (pr_tries _ c A I L z (by omega) hI) (fun τ hP ht => nxt τ _ hP ht (by omega) (by omega))
    refine xite2 (fun _ => ?_) (fun _ => ?_)
    · exact lc_37 (P := lwP (c + 1)) (by decide) hN hs hi (pr_stairs  c A I L z (by omega) hI) (fun τ hP ht => nxt τ _ hP ht (by omega) (by omega))
    refine xite2 (fun _ => ?_) (fun _ => ?_)
    · exact lc_38 (P := lwP (c + 1)) (by decide) hN hs hi (pr_truth _ c A I L z (by omega) hI) (fun τ hP ht => nxt τ _ hP ht (by omega) (by omega))
    refine xite2 (fun _ => ?_) (fun _ => ?_)
    · exact lc_39 (P := lwP (c + 1)) (by decide) hN hs hi (pq_stands _ c A I L z (by omega) hI) (fun τ hP ht => nxt τ _ hP ht (by omega) (by omega))
    refine xite2 (fun _ => ?_) (fun _ => ?_)
    · exact lc_40 (P := lwP (c + 1)) (by decide) hN hs hi (pq_seed _ c A I L z (by omega) hI) (fun τ hP ht => nxt τ _ hP ht (by omega) (by omega))
    refine xite2 (fun _ => ?_) (fun _ => ?_)
    · exact lc_41 (P := lwP (c + 1)) (by decide) hN hs hi (by omega) (pr_image  c A I L z (by omega) hI) (fun τ hP ht => nxt τ _ hP ht (by dsimp only; omega) (by dsimp only; omega))
    refine xite2 (fun _ => ?_) (fun _ => ?_)
    · exact lc_42 (P := lwP (c + 1)) (by decide) hN hs hi (pr_back  c A I L z (by omega) hI) (fun τ hP ht => nxt τ _ hP ht (by omega) (by omega))
    refine xite2 (fun _ => ?_) (fun _ => ?_)
    · exact lc_43 (P := lwP (c + 1)) (by decide) hN hs hi (pr_status _ c A I L z (by omega) hI) (fun τ hP ht => nxt τ _ hP ht (by omega) (by omega))
    exact stay
