theorem law_pure (xs : Nat → Int32) (L : Nat) (hL : L ≤ 3072) : xEX (xcode 303) 2 (xCd 40) (fun r τ => r = some (.int 1)) 0 [some (.ref 0), none, none, none] [] (xσ0 xs L) (600000, 7302249) := by
  sorry
