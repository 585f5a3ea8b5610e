/-! the law over the pure machine -/
theorem law_pure (xs : Nat → Int32) (L : Nat) (hL : L ≤ 3072) : xEX (xcode 303) 2 (xCd 40) (fun r τ => r = some (.int 1)) 0 [some (.ref 0), none, none, none] [] (xσ0 xs L) (600000, 7302249) :=
  law_start (I := xf0 xs) (L := fun _ _ => 0) (N := L) ⟨rfl, rfl, rfl, rfl, rfl, rfl⟩ (fun p hp => by
    have hp : p = 0 ∨ p = 1 ∨ p = 2 ∨ p = 3 ∨ p = 4 ∨ p = 5 := by omega
    rcases hp with rfl | rfl | rfl | rfl | rfl | rfl <;> rfl) (fun J M h => law_loop hL 512 0 rfl _ _ ⟨ab0, J, M, _, rfl, h⟩ lw_xS (by decide) (by decide))
