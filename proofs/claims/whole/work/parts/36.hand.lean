/-! methods with loops: what they come to -/
/-- n slots of a cell get one value -/
def xfil (I : xI) (o n : Nat) (v : Int32) : xI := fun o' k => if o' = o ∧ k < n then v else I o' k
theorem xfil_0 (I : xI) (o : Nat) (v : Int32) : xfil I o 0 v = I := by
  funext o' k
  exact if_neg fun h => absurd h.2 (Nat.not_lt_zero _)
theorem xfil_s (I : xI) (o n : Nat) (v : Int32) : xw (xfil I o n v) o n v = xfil I o (n + 1) v := by
  funext o' k
  unfold xw xfil
  by_cases h : o' = o
  · by_cases h2 : k = n
    · rw [if_pos ⟨h, h2⟩, if_pos ⟨h, by omega⟩]
    · rw [if_neg fun q => h2 q.2]
      by_cases h3 : k < n
      · rw [if_pos ⟨h, h3⟩, if_pos ⟨h, by omega⟩]
      · rw [if_neg fun q => h3 q.2, if_neg fun q => h3 (by have := q.2; omega)]
  · rw [if_neg fun q => h q.1, if_neg fun q => h q.1, if_neg fun q => h q.1]
theorem s_J7_fill {I : xI} {L : xL} {z : Bool × Bool × Nat} {a0 n : Nat} {a1 : Int32} (ha : xalive (112, bif z.1 then 158 else 112, bif z.2.1 then 204 else 158) a0 = true) (hk : xkind a0 = 20) (h8 : Nat.blt 8 a0 = true) (hn : xlen z.2.2 a0 = n) (hs : n < 2147483648) : xCd 1 302 [.ref a0, .int a1] (xS I L z) (fun r τ => r = none ∧ τ = xS (xfil I a0 n a1) L z) := by
  have e1 : (xalive (112, bif z.1 then 158 else 112, bif z.2.1 then 204 else 158) a0 && Nat.ble 20 (xkind a0) && !(Nat.beq (xkind a0) 24)) = true := by
    rw [ha, hk]; rfl
  have e2 : (xis (xS I L z) a0 20 && Nat.blt 8 a0) = true := by
    have : xis (xS I L z) a0 20 = true := by
      show (xalive _ a0 && Nat.beq (xkind a0) 20) = true
      rw [hk]
      exact (Bool.and_eq_true _ _).mpr ⟨ha, rfl⟩
    rw [this, h8]; rfl
  refine c_J7_fill_53178 (g_J7_fill_53178_0 (Nat.zero_le _) ?_)
  refine xbifT e1 ?_
  rw [hn]
  have key : ∀ i, i ≤ n → h_J7_fill_53178_5 0 (fun r τ => r = none ∧ τ = xS (xfil I a0 n a1) L z) (0, 0) (xfil I a0 i a1) L z a0 a1 (Int32.ofNat i) (Int32.ofNat n) := by
    refine xcount _ n ?_ ?_
    · intro i hi k
      refine g_J7_fill_53178_5 (Nat.zero_le _) ?_
      rw [if_pos ((xv_lt (by omega) (by omega)).mpr hi)]
      refine xbifT e2 ?_
      rw [hn, if_pos ((xv_in (by omega)).mpr hi), xv_clamp (by omega), xfil_s, show Int32.ofNat i + 1 = Int32.ofNat (i + 1) from xv_add i 1]
      exact k
    · refine g_J7_fill_53178_5 (Nat.zero_le _) ?_
      rw [if_neg (fun q => absurd ((xv_lt (by omega) (by omega)).mp q) (Nat.lt_irrefl _))]
      exact ⟨rfl, rfl⟩
  have q := key 0 (Nat.zero_le _)
  rw [xfil_0] at q
  exact q
/-- n slots of a cell are another's -/
def xcop (I : xI) (s d n : Nat) : xI := fun o' k => if o' = d ∧ k < n then I s k else I o' k
theorem xcop_0 (I : xI) (s d : Nat) : xcop I s d 0 = I := by
  funext o' k
  exact if_neg fun h => absurd h.2 (Nat.not_lt_zero _)
theorem xcop_s (I : xI) (s d n : Nat) (v : Int32) (hv : v = I s n) : xw (xcop I s d n) d n v = xcop I s d (n + 1) := by
  subst hv
  funext o' k
  unfold xw xcop
  by_cases h : o' = d
  · by_cases h2 : k = n
    · rw [if_pos ⟨h, h2⟩, if_pos ⟨h, by omega⟩, h2]
    · rw [if_neg fun q => h2 q.2]
      by_cases h3 : k < n
      · rw [if_pos ⟨h, h3⟩, if_pos ⟨h, by omega⟩]
      · rw [if_neg fun q => h3 q.2, if_neg fun q => h3 (by have := q.2; omega)]
  · rw [if_neg fun q => h q.1, if_neg fun q => h q.1, if_neg fun q => h q.1]
theorem s_X9_copied {I : xI} {L : xL} {z : Bool × Bool × Nat} {a0 a1 n : Nat} (ha : xalive (112, bif z.1 then 158 else 112, bif z.2.1 then 204 else 158) a0 = true) (hk : xkind a0 = 20) (hb : xalive (112, bif z.1 then 158 else 112, bif z.2.1 then 204 else 158) a1 = true) (hkb : xkind a1 = 20) (h8 : Nat.blt 8 a1 = true) (hne : a0 ≠ a1) (hn : xlen z.2.2 a0 = n) (hm : xlen z.2.2 a1 = n) (hs : n < 2147483648) : xCd 1 294 [.ref a0, .ref a1] (xS I L z) (fun r τ => r = none ∧ τ = xS (xcop I a0 a1 n) L z) := by
  have e1 : (xalive (112, bif z.1 then 158 else 112, bif z.2.1 then 204 else 158) a0 && Nat.ble 20 (xkind a0) && !(Nat.beq (xkind a0) 24)) = true := by
    rw [ha, hk]; rfl
  have e3 : ∀ J : xI, xisi (xS J L z) a0 = true := by
    intro J
    show (xalive _ a0 && (Nat.beq (xkind a0) 20 || Nat.beq (xkind a0) 25)) = true
    rw [hk]
    exact (Bool.and_eq_true _ _).mpr ⟨ha, rfl⟩
  have e2 : ∀ J : xI, (xis (xS J L z) a1 20 && Nat.blt 8 a1) = true := by
    intro J
    have : xis (xS J L z) a1 20 = true := by
      show (xalive _ a1 && Nat.beq (xkind a1) 20) = true
      rw [hkb]
      exact (Bool.and_eq_true _ _).mpr ⟨hb, rfl⟩
    rw [this, h8]; rfl
  refine c_X9_copied (g_X9_copied_0 (Nat.zero_le _) ?_)
  have key : ∀ i, i ≤ n → h_X9_copied_2 0 (fun r τ => r = none ∧ τ = xS (xcop I a0 a1 n) L z) (0, 0) (xcop I a0 a1 i) L z a0 a1 (Int32.ofNat i) := by
    refine xcount _ n ?_ ?_
    · intro i hi k
      refine g_X9_copied_2 (Nat.zero_le _) ?_
      refine xbifT e1 ?_
      rw [hn, if_pos ((xv_lt (by omega) (by omega)).mpr hi)]
      refine xbifT (e3 _) ?_
      rw [if_pos ((xv_in (by omega)).mpr hi)]
      refine xbifT (e2 _) ?_
      rw [hm, if_pos ((xv_in (by omega)).mpr hi), xv_clamp (by omega)]
      rw [xcop_s I a0 a1 i _ (by show (if a0 = a1 ∧ i < i then _ else _) = _; rw [if_neg fun q => hne q.1]), show Int32.ofNat i + 1 = Int32.ofNat (i + 1) from xv_add i 1]
      exact k
    · refine g_X9_copied_2 (Nat.zero_le _) ?_
      refine xbifT e1 ?_
      rw [hn, if_neg (fun q => absurd ((xv_lt (by omega) (by omega)).mp q) (Nat.lt_irrefl _))]
      exact ⟨rfl, rfl⟩
  have q := key 0 (Nat.zero_le _)
  rw [xcop_0] at q
  exact q
