/-! the law's start -/
def vz : vG → Nat → Bool
  | [], _ => false
  | (o, none) :: t, o' => Nat.beq o' o || vz t o'
  | (o, some _) :: t, o' => bif Nat.beq o' o then false else vz t o'
theorem vz_ok {I : xI} : ∀ {g : vG} {o : Nat}, vz g o = true → ∀ k, vI I g o k = 0
  | [], _, h, _ => by cases h
  | (o, none) :: t, o', h, k => by
    show (if o' = o then 0 else vI I t o' k) = 0
    by_cases e : o' = o
    · rw [if_pos e]
    · rw [if_neg e]
      unfold vz at h
      rcases (Bool.or_eq_true _ _).mp h with h | h
      · exact absurd (Nat.eq_of_beq_eq_true h) e
      · exact vz_ok h k
  | (o, some (j, w)) :: t, o', h, k => by
    show (if o' = o ∧ k = j then w else vI I t o' k) = 0
    unfold vz at h
    cases e : Nat.beq o' o with
    | true => rw [e] at h; cases h
    | false =>
      rw [e] at h
      rw [if_neg (fun q => absurd q.1 (Nat.ne_of_beq_eq_false e))]
      exact vz_ok h k
def vr (g : vG) (o n : Nat) (v : Nat → Int32) : Bool := (List.range n).all (fun k => decide (vget g o k = some (v k)))
theorem vr_ok {I : xI} {g : vG} {o n : Nat} {v : Nat → Int32} (h : vr g o n v = true) {k : Nat} (hk : k < n) : vI I g o k = v k := vget_some (of_decide_eq_true (List.all_eq_true.mp h k (List.mem_range.mpr hk)))
theorem rng_ok {n : Nat} {p : Nat → Bool} (h : (List.range n).all p = true) {k : Nat} (hk : k < n) : p k = true := List.all_eq_true.mp h k (List.mem_range.mpr hk)
def vfacts (g : vG) : List Bool := [g.all (fun e => Nat.ble 9 e.1 && Nat.blt e.1 204),
  vr g 10 6 (fun k => if k = 0 then 5 else if k = 1 then 1 else if k = 2 then 1 else if k = 5 then 1 else 0),
  vr g 11 6 (fun _ => 0), vr g 12 6 (fun _ => 0), vr g 13 18 (fun _ => 0), vr g 14 6 (fun _ => -1), vr g 15 6 (fun _ => 0),
  vr g 66 21 (fun k => if k = 9 then 5 else if k = 10 then 1 else if k = 20 then 1 else 0),
  vr g 83 6 (fun _ => 0), vr g 84 6 (fun _ => 0), (List.range 6).all (fun s => vr g (66 + 20 + s) 4 (fun k => if k = 3 then Int32.ofNat s else 0)),
  vr g 92 6 (fun _ => -1), vr g 93 6 (fun _ => 0), (List.range 6).all (fun p => vr g (66 + 29 + p) 4 (fun _ => -1)),
  vr g 58 8 (fun _ => -1), vr g 67 8 (fun _ => 0), vr g 65 5 (fun _ => 0), vr g 82 8 (fun _ => 0), vr g 61 1 (fun _ => 0), vr g 9 12 (fun _ => 0), vr g 44 4 (fun _ => 0), vz g 47]
def vck : Bool := match vcd 6 132 [.ref 9] ([(9, none)], xset (List.replicate 204 []) 9 (xrow 9), (10, 112, 158)) with
  | some (none, (g1, R1, A1)) => decide (A1 = (66, 112, 158)) && (match vcd 4 186 [.ref 66] ((66, none) :: g1, xset R1 66 (xrow 66), (67, 112, 158)) with
    | some (none, (g, R, A)) => decide (A = (112, 112, 158)) && decide (R = xR0 (false, false, 0)) && (vfacts g).all id
    | _ => false)
  | _ => false
theorem vck_ok : vck = true := by decide +kernel
/-- a new object -/
def ab0 : xAb := ((5, 1, 1), (fun _ => 0), (fun _ => 0), (fun _ _ => 0), (fun _ => -1), (fun _ => 0), [], [])
theorem ab0_OK : abOK ab0 := by
  refine ⟨⟨by decide, by decide⟩, by decide, fun _ _ => (by decide : 0 < 6), fun _ _ => (by decide : 0 < 6), fun _ _ _ => ⟨rfl, rfl⟩, fun _ _ _ _ => (by decide : 0 < 10), fun _ _ => Or.inl rfl, fun _ _ => (by decide : 0 < 10), ⟨by decide, fun s hs => ?_, ?_⟩, ⟨by decide, fun q hq => ?_⟩⟩
  · cases hs
  · exact List.nodup_nil
  · cases hq
theorem inv0 {I : xI} {L : xL} {N : Nat} {g : vG} (hv : (vfacts g).all id = true) (ha : xAbv I) (hs : xShf I) : xInv 0 ab0 (vI I g) (vL L g) (false, false, N) := by
  have hv := List.all_eq_true.mp hv
  unfold vfacts at hv
  simp only [List.mem_cons, List.not_mem_nil, or_false, forall_eq_or_imp, forall_eq, id] at hv
  obtain ⟨f0, f10, f11, f12, f13, f14, f15, f66, f83, f84, f86, f92, f93, f95, f58, f67, f65, f82, f61, f9, f44, f47⟩ := hv
  have e0 : Int32.ofNat 0 = 0 := rfl
  refine ⟨⟨ab0_OK, ?_, ?_, ?_, ?_, ?_, ?_, ?_⟩, ?_, ?_, ?_, 0, Nat.zero_le _, ?_, ?_⟩
  · refine ⟨⟨?_, ?_, ?_, ?_, ?_⟩, ?_, ?_, ?_, ?_, ?_, ?_, ?_⟩
    · exact vr_ok f10 (k := 0) (by decide)
    · exact vr_ok f10 (k := 1) (by decide)
    · exact vr_ok f10 (k := 2) (by decide)
    · exact vr_ok f10 (k := 3) (by decide)
    · exact vr_ok f10 (k := 4) (by decide)
    · intro k hk; exact vr_ok f11 hk
    · intro k hk; exact vr_ok f12 hk
    · intro s hs l hl; exact vr_ok f13 (by omega)
    · intro k hk; exact vr_ok f14 hk
    · intro k hk; exact vr_ok f15 hk
    · intro i hi; exact absurd hi (Nat.not_lt_zero _)
    · intro i hi; exact absurd hi (Nat.not_lt_zero _)
  · refine ⟨⟨?_, ?_, ?_, ?_⟩, ?_, ?_, ?_, ?_, ?_, ?_, ?_⟩
    · exact vr_ok f66 (k := 9) (by decide)
    · exact vr_ok f66 (k := 10) (by decide)
    · exact vr_ok f66 (k := 20) (by decide)
    · exact vr_ok f66 (k := 17) (by decide)
    · intro k hk; exact vr_ok f83 hk
    · intro k hk
      have hk : k < 5 := hk
      exact vr_ok f84 (by omega)
    · intro s hs
      have q := rng_ok f86 hs
      refine ⟨fun l hl => ?_, ?_⟩
      · have := vr_ok (I := I) q (k := l) (by omega)
        rw [if_neg (by omega)] at this
        exact this
      · exact vr_ok q (k := 3) (by decide)
    · intro k hk; exact vr_ok f92 hk
    · intro k hk; exact vr_ok f93 hk
    · intro p hp k hk; exact vr_ok (rng_ok f95 hp) hk
    · intro i hi; exact absurd hi (Nat.not_lt_zero _)
  · intro s hs
    exact Or.inl ⟨vr_ok f58 hs, vr_ok f67 hs⟩
  · intro i hi
    rw [vr_ok f65 hi, vr_ok f82 (show i + 2 < 8 by omega)]
  · exact ⟨0, by decide, vr_ok f61 (k := 0) (by decide), vr_ok f66 (k := 7) (by decide), fun i hi => absurd hi (Nat.not_lt_zero _)⟩
  · exact vr_ok f9 (k := 11) (by decide)
  · intro h; cases h
  · intro p hp
    rw [vI_out f0 (o := 2) (by omega) p]; exact hs p hp
  · obtain ⟨a, b, c, d, e, f⟩ := ha
    have o1 : ∀ k, vI I g 1 k = I 1 k := fun k => vI_out f0 (o := 1) (by omega) k
    exact ⟨(o1 _).trans a, (o1 _).trans b, (o1 _).trans c, (o1 _).trans d, (o1 _).trans e, (o1 _).trans f⟩
  · exact Or.inl (vr_ok f10 (k := 5) (by decide))
  · exact vr_ok f44 (k := 3) (by decide)
  · intro i hi
    exact ⟨0, Nat.le_refl _, vz_ok f47 i⟩
set_option maxRecDepth 100000 in
theorem xR0_N {N : Nat} : xR0 (false, false, 0) = xR0 (false, false, N) := rfl
set_option maxRecDepth 100000 in
theorem law_start {I : xI} {L : xL} {N : Nat} {Q : xQ} (ha : xAbv I) (hs : xShf I) (k : ∀ J M, xInv 0 ab0 J M (false, false, N) → xEX k_L_law 2 (xCd 40) Q 18 [some (.ref 0), some (.ref 9), some (.ref 66), some (.int (Int32.ofNat (6 * 0)))] [] (xS J M (false, false, N)) (599897, 7290611)) : xEX k_L_law 2 (xCd 40) Q 0 [some (.ref 0), none, none, none] [] (I, L, List.replicate 204 [], (9, 112, 158), N) (600000, 7302249) := by
  have c := vck_ok
  unfold vck at c
  split at c
  · rename_i g1 R1 A1 e1
    obtain ⟨ca, cq⟩ := (Bool.and_eq_true _ _).mp c
    have ca : A1 = (66, 112, 158) := of_decide_eq_true ca
    subst ca
    split at cq
    · rename_i g R A e2
      obtain ⟨cr, cv⟩ := (Bool.and_eq_true _ _).mp cq
      obtain ⟨cA, cR⟩ := (Bool.and_eq_true _ _).mp cr
      have cA : A = (112, 112, 158) := of_decide_eq_true cA
      have cR : R = xR0 (false, false, N) := (of_decide_eq_true cR).trans xR0_N
      subst cA
      subst cR
      have k1 := vcd_ok (I := I) (L := L) (N := N) 6 132 [.ref 9] _ none _ e1
      have k2 := vcd_ok (I := I) (L := L) (N := N) 4 186 [.ref 66] _ none _ e2
      have call1 : ∀ Q : xQ, xCd 40 132 [.ref 9] (xwz I 9, xwlz L 9, xset (List.replicate 204 []) 9 (xrow 9), (10, 112, 158), N) (fun r τ => xEX k_L_law 2 (xCd 40) Q 7 [some (.ref 0), none, none, none] (r.toList ++ [.ref 9]) τ (599943, 7296483)) → xEX k_L_law 2 (xCd 40) Q 0 [some (.ref 0), none, none, none] [] (I, L, List.replicate 204 [], (9, 112, 158), N) (600000, 7302249) := fun Q h => xgo (S := []) (n := 3) rfl h
      have call2 : ∀ (Q : xQ) (J : xI) (M : xL) (R : xR), xCd 40 186 [.ref 66] (xwz J 66, xwlz M 66, xset R 66 (xrow 66), (67, 112, 158), N) (fun r τ => xEX k_L_law 2 (xCd 40) Q 15 [some (.ref 0), some (.ref 9), none, none] (r.toList ++ [.ref 66]) τ (599897, 7290611)) → xEX k_L_law 2 (xCd 40) Q 7 [some (.ref 0), none, none, none] [.ref 9] (J, M, R, (66, 112, 158), N) (599943, 7296483) := fun Q J M R h => xgo (S := []) (n := 4) rfl h
      have last : ∀ (Q : xQ) (σ : xH) (b : Nat × Nat), xEX k_L_law 2 (xCd 40) Q 18 [some (.ref 0), some (.ref 9), some (.ref 66), some (.int 0)] [] σ b → xEX k_L_law 2 (xCd 40) Q 15 [some (.ref 0), some (.ref 9), none, none] [.ref 66] σ b := fun Q σ b h => xgo (S := []) (n := 3) rfl h
      refine call1 _ (xupD (k1 _ ?_) (by decide))
      refine call2 _ (vI I g1) (vL L g1) R1 (xupD (k2 _ ?_) (by decide))
      exact last _ _ _ (k _ _ (inv0 cv ha hs))
    · cases cq
  · cases c
