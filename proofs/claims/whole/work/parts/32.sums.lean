def xrf (I : xI) (a : Int32) : xI := if a < 0 then I else if a < 5 then xw I 65 (Int32.toNatClampNeg a) (I 65 (Int32.toNatClampNeg a) + 1) else I
/-- a refusal is counted -/
def xrfu (I : xI) (a : Int32) : xI := xrf I ((-2 : Int32) - a)
theorem x_refuse {I : xI} {L : xL} {z : Bool × Bool × Nat} (a1 a2 : Int32) : xEX k_X8_refuse 1 (xCd 0) (fun r τ => r = some (.int a1) ∧ τ = xS (xrf I a2) L z) 5 [some (.ref 9), some (.int a1), some (.int a2)] [] (xS I L z) (0, 0) := by
  refine xgo b_X8_refuse_5 ?_
  unfold xrf
  by_cases h0 : a2 < 0
  · simp only [if_pos h0] <;> first | exact ⟨rfl, rfl⟩ | exact ⟨rfl, trivial⟩ | trivial
  · by_cases h1 : a2 < 5
    · simp only [if_neg h0, if_pos h1]
      have hx : xin a2 5 := xin_of (by decide) h0 h1
      refine xgo b_X8_refuse_18 ?_
      rw [if_pos hx, if_pos hx]
      exact ⟨rfl, rfl⟩
    · simp only [if_neg h0, if_neg h1] <;> first | exact ⟨rfl, rfl⟩ | exact ⟨rfl, trivial⟩ | trivial
theorem s_X8_refuse {I : xI} {L : xL} {z : Bool × Bool × Nat} {a1 : Int32} : xCd 1 177 [.ref 9, .int a1] (xS I L z) (fun r τ => r = some (.int a1) ∧ τ = xS (xrfu I a1) L z) :=
  xin_ (T := k_X8_refuse) (rt := 1) (ls := [some (.ref 9), some (.int a1), none]) rfl rfl rfl rfl (xgo b_X8_refuse_0 (x_refuse a1 _))
set_option maxRecDepth 100000 in
theorem c_X0_meanWith {F : xQ} {I : xI} {L : xL} {z : Bool × Bool × Nat} {a1 : Int32} {a2 : Int32} {a3 : Int32} (h : (if ((a1 * 6) + a3) < 0 then F (some (.int 0)) (xS I L z) else (if ((a1 * 6) + a3) < 36 then (if (a2 ||| (1 <<< (a3 &&& 31))) < 0 then F (some (.int 0)) (xS I L z) else (if (a2 ||| (1 <<< (a3 &&& 31))) < 64 then (if xin ((a1 * 6) + a3) (36) then (if xin (a2 ||| (1 <<< (a3 &&& 31))) (64) then F (some (.int ((I 51 (Int32.toNatClampNeg ((a1 * 6) + a3))) + (I 52 (Int32.toNatClampNeg (a2 ||| (1 <<< (a3 &&& 31)))))))) (xS I L z) else False) else False) else F (some (.int 0)) (xS I L z))) else F (some (.int 0)) (xS I L z)))) : xCd 1 13 [.ref 50, .int a1, .int a2, .int a3] (xS I L z) F := by
  have hd : 0 ≤ 0 := Nat.le_refl _
  exact xin_ (T := k_X0_meanWith) (rt := 1) (ls := [some (.ref 50), some (.int a1), some (.int a2), some (.int a3), none, none]) rfl rfl rfl rfl (xgo b_X0_meanWith_0 h)
set_option maxRecDepth 100000 in
theorem c_X0_leastMean {F : xQ} {I : xI} {L : xL} {z : Bool × Bool × Nat}  (h : F (some (.int (I 52 (Int32.toNatClampNeg 0)))) (xS I L z)) : xCd 1 14 [.ref 50] (xS I L z) F := by
  have hd : 0 ≤ 0 := Nat.le_refl _
  exact xin_ (T := k_X0_leastMean) (rt := 1) (ls := [some (.ref 50)]) rfl rfl rfl rfl (xgo b_X0_leastMean_0 h)
def f_X0_leastMean (I : xI) (L : xL)  : Int32 := I 52 (Int32.toNatClampNeg 0)
set_option maxRecDepth 100000 in
theorem s_X0_leastMean {I : xI} {L : xL} {z : Bool × Bool × Nat}  : xCd 1 14 [.ref 50] (xS I L z) (fun r τ => r = some (.int (f_X0_leastMean I L )) ∧ τ = xS I L z) := by
  unfold f_X0_leastMean
  refine c_X0_leastMean ?_
  skip
  try dsimp only
  repeat' split
  all_goals first | exact ⟨rfl, rfl⟩ | (exfalso; simp_all; done) | (exfalso; simp only [xin_iff, Int32.lt_iff_toInt_lt] at *; simp at *; omega) | grind
set_option maxRecDepth 100000 in
theorem c_X0_bestPlaceOf {F : xQ} {I : xI} {L : xL} {z : Bool × Bool × Nat} {a1 : Int32} (h : (if a1 < 0 then F (some (.int 0)) (xS I L z) else (if a1 < 6 then (if xin a1 (6) then F (some (.int (I 53 (Int32.toNatClampNeg a1)))) (xS I L z) else False) else F (some (.int 0)) (xS I L z)))) : xCd 1 15 [.ref 50, .int a1] (xS I L z) F := by
  have hd : 0 ≤ 0 := Nat.le_refl _
  exact xin_ (T := k_X0_bestPlaceOf) (rt := 1) (ls := [some (.ref 50), some (.int a1)]) rfl rfl rfl rfl (xgo b_X0_bestPlaceOf_0 h)
def f_X0_bestPlaceOf (I : xI) (L : xL) (a1 : Int32) : Int32 := (if a1 < 0 then 0 else (if a1 < 6 then (if xin a1 (6) then I 53 (Int32.toNatClampNeg a1) else 0) else 0))
set_option maxRecDepth 100000 in
theorem s_X0_bestPlaceOf {I : xI} {L : xL} {z : Bool × Bool × Nat} {a1 : Int32} : xCd 1 15 [.ref 50, .int a1] (xS I L z) (fun r τ => r = some (.int (f_X0_bestPlaceOf I L a1)) ∧ τ = xS I L z) := by
  unfold f_X0_bestPlaceOf
  refine c_X0_bestPlaceOf ?_
  skip
  try dsimp only
  repeat' split
  all_goals first | exact ⟨rfl, rfl⟩ | (exfalso; simp_all; done) | (exfalso; simp only [xin_iff, Int32.lt_iff_toInt_lt] at *; simp at *; omega) | grind
set_option maxRecDepth 100000 in
theorem c_X2_isShelf {F : xQ} {I : xI} {L : xL} {z : Bool × Bool × Nat} {a0 : Int32} (h : (if a0 < 0 then F (some (.int 0)) (xS I L z) else (if a0 < 8 then F (some (.int 1)) (xS I L z) else F (some (.int 0)) (xS I L z)))) : xCd 1 35 [.int a0] (xS I L z) F := by
  have hd : 0 ≤ 0 := Nat.le_refl _
  exact xin_ (T := k_X2_isShelf) (rt := 2) (ls := [some (.int a0)]) rfl rfl rfl rfl (xgo b_X2_isShelf_0 h)
abbrev p_X2_isShelf (I : xI) (L : xL) (a0 : Int32) : Prop := (¬ a0 < 0 ∧ a0 < 8)
set_option maxRecDepth 100000 in
theorem s_X2_isShelf {I : xI} {L : xL} {z : Bool × Bool × Nat} {a0 : Int32} : xCd 1 35 [.int a0] (xS I L z) (fun r τ => r = some (.int (if p_X2_isShelf I L a0 then 1 else 0)) ∧ τ = xS I L z) := by
  by_cases hp : p_X2_isShelf I L a0
  · rw [if_pos hp]
    refine c_X2_isShelf ?_
    try simp only [p_X2_isShelf] at *
    try dsimp only
    repeat' split
    all_goals first | exact ⟨rfl, rfl⟩ | (exfalso; simp_all; done) | (exfalso; simp only [xin_iff, Int32.lt_iff_toInt_lt] at *; simp at *; omega) | grind
  · rw [if_neg hp]
    refine c_X2_isShelf ?_
    try simp only [p_X2_isShelf] at *
    try dsimp only
    repeat' split
    all_goals first | exact ⟨rfl, rfl⟩ | (exfalso; simp_all; done) | (exfalso; simp only [xin_iff, Int32.lt_iff_toInt_lt] at *; simp at *; omega) | grind
set_option maxRecDepth 100000 in
theorem c_X2_isSort {F : xQ} {I : xI} {L : xL} {z : Bool × Bool × Nat} {a0 : Int32} (h : (if a0 < 0 then F (some (.int 0)) (xS I L z) else (if a0 < 5 then F (some (.int 1)) (xS I L z) else F (some (.int 0)) (xS I L z)))) : xCd 1 36 [.int a0] (xS I L z) F := by
  have hd : 0 ≤ 0 := Nat.le_refl _
  exact xin_ (T := k_X2_isSort) (rt := 2) (ls := [some (.int a0)]) rfl rfl rfl rfl (xgo b_X2_isSort_0 h)
abbrev p_X2_isSort (I : xI) (L : xL) (a0 : Int32) : Prop := (¬ a0 < 0 ∧ a0 < 5)
set_option maxRecDepth 100000 in
theorem s_X2_isSort {I : xI} {L : xL} {z : Bool × Bool × Nat} {a0 : Int32} : xCd 1 36 [.int a0] (xS I L z) (fun r τ => r = some (.int (if p_X2_isSort I L a0 then 1 else 0)) ∧ τ = xS I L z) := by
  by_cases hp : p_X2_isSort I L a0
  · rw [if_pos hp]
    refine c_X2_isSort ?_
    try simp only [p_X2_isSort] at *
    try dsimp only
    repeat' split
    all_goals first | exact ⟨rfl, rfl⟩ | (exfalso; simp_all; done) | (exfalso; simp only [xin_iff, Int32.lt_iff_toInt_lt] at *; simp at *; omega) | grind
  · rw [if_neg hp]
    refine c_X2_isSort ?_
    try simp only [p_X2_isSort] at *
    try dsimp only
    repeat' split
    all_goals first | exact ⟨rfl, rfl⟩ | (exfalso; simp_all; done) | (exfalso; simp only [xin_iff, Int32.lt_iff_toInt_lt] at *; simp at *; omega) | grind
set_option maxRecDepth 100000 in
theorem c_X2_isSize {F : xQ} {I : xI} {L : xL} {z : Bool × Bool × Nat} {a0 : Int32} (h : (if a0 < 0 then F (some (.int 0)) (xS I L z) else (if 40 < a0 then F (some (.int 0)) (xS I L z) else F (some (.int 1)) (xS I L z)))) : xCd 1 37 [.int a0] (xS I L z) F := by
  have hd : 0 ≤ 0 := Nat.le_refl _
  exact xin_ (T := k_X2_isSize) (rt := 2) (ls := [some (.int a0)]) rfl rfl rfl rfl (xgo b_X2_isSize_0 h)
abbrev p_X2_isSize (I : xI) (L : xL) (a0 : Int32) : Prop := (¬ a0 < 0 ∧ ¬ 40 < a0)
set_option maxRecDepth 100000 in
theorem s_X2_isSize {I : xI} {L : xL} {z : Bool × Bool × Nat} {a0 : Int32} : xCd 1 37 [.int a0] (xS I L z) (fun r τ => r = some (.int (if p_X2_isSize I L a0 then 1 else 0)) ∧ τ = xS I L z) := by
  by_cases hp : p_X2_isSize I L a0
  · rw [if_pos hp]
    refine c_X2_isSize ?_
    try simp only [p_X2_isSize] at *
    try dsimp only
    repeat' split
    all_goals first | exact ⟨rfl, rfl⟩ | (exfalso; simp_all; done) | (exfalso; simp only [xin_iff, Int32.lt_iff_toInt_lt] at *; simp at *; omega) | grind
  · rw [if_neg hp]
    refine c_X2_isSize ?_
    try simp only [p_X2_isSize] at *
    try dsimp only
    repeat' split
    all_goals first | exact ⟨rfl, rfl⟩ | (exfalso; simp_all; done) | (exfalso; simp only [xin_iff, Int32.lt_iff_toInt_lt] at *; simp at *; omega) | grind
set_option maxRecDepth 100000 in
theorem c_X2_thingOf {F : xQ} {I : xI} {L : xL} {z : Bool × Bool × Nat} {a1 : Int32} (h : (if p_X2_isShelf I L a1 then (if xin a1 (8) then F (some (.int (I 58 (Int32.toNatClampNeg a1)))) (xS I L z) else False) else F (some (.int (-1 : Int32))) (xS I L z))) : xCd 2 38 [.ref 57, .int a1] (xS I L z) F := by
  have hd : 1 ≤ 1 := Nat.le_refl _
  exact xin_ (T := k_X2_thingOf) (rt := 1) (ls := [some (.ref 57), some (.int a1)]) rfl rfl rfl rfl (xgo b_X2_thingOf_0 (xuse1 s_X2_isShelf (Nat.le_trans (by decide) hd) (xgo b_X2_thingOf_4 (xiteB (fun c20 h20 => h20) (fun c20 h20 => h20) h))))
def f_X2_thingOf (I : xI) (L : xL) (a1 : Int32) : Int32 := (if p_X2_isShelf I L a1 then (if xin a1 (8) then I 58 (Int32.toNatClampNeg a1) else 0) else (-1 : Int32))
set_option maxRecDepth 100000 in
theorem s_X2_thingOf {I : xI} {L : xL} {z : Bool × Bool × Nat} {a1 : Int32} : xCd 2 38 [.ref 57, .int a1] (xS I L z) (fun r τ => r = some (.int (f_X2_thingOf I L a1)) ∧ τ = xS I L z) := by
  unfold f_X2_thingOf
  refine c_X2_thingOf ?_
  try simp only [p_X2_isShelf] at *
  try dsimp only
  repeat' split
  all_goals first | exact ⟨rfl, rfl⟩ | (exfalso; simp_all; done) | (exfalso; simp only [xin_iff, Int32.lt_iff_toInt_lt] at *; simp at *; omega) | grind
set_option maxRecDepth 100000 in
theorem c_X2_hasRow {F : xQ} {I : xI} {L : xL} {z : Bool × Bool × Nat} {a1 : Int32} (h : (if a1 < 0 then F (some (.int 0)) (xS I L z) else (if a1 < 8 then (if xin a1 (8) then (if (I 58 (Int32.toNatClampNeg a1)) < 0 then F (some (.int 0)) (xS I L z) else (if xin a1 (8) then (if (I 58 (Int32.toNatClampNeg a1)) < 5 then F (some (.int 1)) (xS I L z) else F (some (.int 0)) (xS I L z)) else False)) else False) else F (some (.int 0)) (xS I L z)))) : xCd 1 39 [.ref 57, .int a1] (xS I L z) F := by
  have hd : 0 ≤ 0 := Nat.le_refl _
  exact xin_ (T := k_X2_hasRow) (rt := 2) (ls := [some (.ref 57), some (.int a1)]) rfl rfl rfl rfl (xgo b_X2_hasRow_0 h)
abbrev p_X2_hasRow (I : xI) (L : xL) (a1 : Int32) : Prop := (¬ a1 < 0 ∧ (a1 < 8 ∧ (xin a1 (8) ∧ (¬ (I 58 (Int32.toNatClampNeg a1)) < 0 ∧ (xin a1 (8) ∧ (I 58 (Int32.toNatClampNeg a1)) < 5)))))
set_option maxRecDepth 100000 in
theorem s_X2_hasRow {I : xI} {L : xL} {z : Bool × Bool × Nat} {a1 : Int32} : xCd 1 39 [.ref 57, .int a1] (xS I L z) (fun r τ => r = some (.int (if p_X2_hasRow I L a1 then 1 else 0)) ∧ τ = xS I L z) := by
  by_cases hp : p_X2_hasRow I L a1
  · rw [if_pos hp]
    refine c_X2_hasRow ?_
    try simp only [p_X2_hasRow] at *
    try dsimp only
    repeat' split
    all_goals first | exact ⟨rfl, rfl⟩ | (exfalso; simp_all; done) | (exfalso; simp only [xin_iff, Int32.lt_iff_toInt_lt] at *; simp at *; omega) | grind
  · rw [if_neg hp]
    refine c_X2_hasRow ?_
    try simp only [p_X2_hasRow] at *
    try dsimp only
    repeat' split
    all_goals first | exact ⟨rfl, rfl⟩ | (exfalso; simp_all; done) | (exfalso; simp only [xin_iff, Int32.lt_iff_toInt_lt] at *; simp at *; omega) | grind
set_option maxRecDepth 100000 in
theorem c_X2_faultOfRow {F : xQ} {I : xI} {L : xL} {z : Bool × Bool × Nat} {a1 : Int32} (h : (if p_X2_isShelf I L a1 then (if p_X2_hasRow I L a1 then F (some (.int 0)) (xS I L z) else (if xin a1 (8) then (if (I 58 (Int32.toNatClampNeg a1)) = (-1 : Int32) then F (some (.int (-4 : Int32))) (xS I L z) else F (some (.int (-3 : Int32))) (xS I L z)) else False)) else F (some (.int (-2 : Int32))) (xS I L z))) : xCd 2 40 [.ref 57, .int a1] (xS I L z) F := by
  have hd : 1 ≤ 1 := Nat.le_refl _
  exact xin_ (T := k_X2_faultOfRow) (rt := 1) (ls := [some (.ref 57), some (.int a1)]) rfl rfl rfl rfl (xgo b_X2_faultOfRow_0 (xuse1 s_X2_isShelf (Nat.le_trans (by decide) hd) (xgo b_X2_faultOfRow_4 (xiteB (fun c30 h30 => (xuse1 s_X2_hasRow (Nat.le_trans (by decide) hd) (xgo b_X2_faultOfRow_15 (xiteB (fun c29 h29 => h29) (fun c29 h29 => h29) h30)))) (fun c30 h30 => h30) h))))
def f_X2_faultOfRow (I : xI) (L : xL) (a1 : Int32) : Int32 := (if p_X2_isShelf I L a1 then (if p_X2_hasRow I L a1 then 0 else (if xin a1 (8) then (if (I 58 (Int32.toNatClampNeg a1)) = (-1 : Int32) then (-4 : Int32) else (-3 : Int32)) else 0)) else (-2 : Int32))
set_option maxRecDepth 100000 in
theorem s_X2_faultOfRow {I : xI} {L : xL} {z : Bool × Bool × Nat} {a1 : Int32} : xCd 2 40 [.ref 57, .int a1] (xS I L z) (fun r τ => r = some (.int (f_X2_faultOfRow I L a1)) ∧ τ = xS I L z) := by
  unfold f_X2_faultOfRow
  refine c_X2_faultOfRow ?_
  try simp only [p_X2_hasRow, p_X2_isShelf] at *
  try dsimp only
  repeat' split
  all_goals first | exact ⟨rfl, rfl⟩ | (exfalso; simp_all; done) | (exfalso; simp only [xin_iff, Int32.lt_iff_toInt_lt] at *; simp at *; omega) | grind
set_option maxRecDepth 100000 in
theorem c_X2_faultOfPair {F : xQ} {I : xI} {L : xL} {z : Bool × Bool × Nat} {a1 : Int32} {a2 : Int32} (h : (if p_X2_isShelf I L a1 then (if p_X2_isShelf I L a2 then (if xin a1 (8) then (if (I 58 (Int32.toNatClampNeg a1)) = (-1 : Int32) then (if xin a1 (8) then (if (I 58 (Int32.toNatClampNeg a1)) < 10 then (if xin a2 (8) then (if (I 58 (Int32.toNatClampNeg a2)) < 10 then F (some (.int (-4 : Int32))) (xS I L z) else F (some (.int (-3 : Int32))) (xS I L z)) else False) else F (some (.int (-3 : Int32))) (xS I L z)) else False) else (if xin a2 (8) then (if (I 58 (Int32.toNatClampNeg a2)) = (-1 : Int32) then (if xin a1 (8) then (if (I 58 (Int32.toNatClampNeg a1)) < 10 then (if xin a2 (8) then (if (I 58 (Int32.toNatClampNeg a2)) < 10 then F (some (.int (-4 : Int32))) (xS I L z) else F (some (.int (-3 : Int32))) (xS I L z)) else False) else F (some (.int (-3 : Int32))) (xS I L z)) else False) else (if xin a1 (8) then (if (I 58 (Int32.toNatClampNeg a1)) < 10 then (if xin a2 (8) then (if (I 58 (Int32.toNatClampNeg a2)) < 10 then (if xin a1 (8) then (if xin a2 (8) then (if (I 58 (Int32.toNatClampNeg a1)) = (I 58 (Int32.toNatClampNeg a2)) then F (some (.int 0)) (xS I L z) else F (some (.int (-3 : Int32))) (xS I L z)) else False) else False) else F (some (.int (-3 : Int32))) (xS I L z)) else False) else F (some (.int (-3 : Int32))) (xS I L z)) else False)) else False)) else False) else F (some (.int (-2 : Int32))) (xS I L z)) else F (some (.int (-2 : Int32))) (xS I L z))) : xCd 2 41 [.ref 57, .int a1, .int a2] (xS I L z) F := by
  have hd : 1 ≤ 1 := Nat.le_refl _
  exact xin_ (T := k_X2_faultOfPair) (rt := 1) (ls := [some (.ref 57), some (.int a1), some (.int a2), none, none]) rfl rfl rfl rfl (xgo b_X2_faultOfPair_0 (xuse1 s_X2_isShelf (Nat.le_trans (by decide) hd) (xgo b_X2_faultOfPair_4 (xiteB (fun c51 h51 => (xuse1 s_X2_isShelf (Nat.le_trans (by decide) hd) (xgo b_X2_faultOfPair_11 (xiteB (fun c50 h50 => (xite (fun c49 h49 => (xite (fun c48 h48 => (xgo b_X2_faultOfPair_42 (xite (fun c34 h34 => (xite (fun c33 h33 => (xite (fun c32 h32 => (xite (fun c31 h31 => (xgo b_X2_faultOfPair_70 (xitT (by decide) (xitF (by decide) (xitF (by decide) h31))))) (fun c31 h31 => (xgo b_X2_faultOfPair_70 (xitF (by decide) h31))) h32)) (fun c32 h32 => h32) h33)) (fun c33 h33 => (xgo b_X2_faultOfPair_70 (xitF (by decide) h33))) h34)) (fun c34 h34 => h34) h48))) (fun c48 h48 => (xite (fun c47 h47 => (xite (fun c46 h46 => (xgo b_X2_faultOfPair_42 (xite (fun c38 h38 => (xite (fun c37 h37 => (xite (fun c36 h36 => (xite (fun c35 h35 => (xgo b_X2_faultOfPair_70 (xitT (by decide) (xitF (by decide) (xitF (by decide) h35))))) (fun c35 h35 => (xgo b_X2_faultOfPair_70 (xitF (by decide) h35))) h36)) (fun c36 h36 => h36) h37)) (fun c37 h37 => (xgo b_X2_faultOfPair_70 (xitF (by decide) h37))) h38)) (fun c38 h38 => h38) h46))) (fun c46 h46 => (xgo b_X2_faultOfPair_42 (xite (fun c45 h45 => (xite (fun c44 h44 => (xite (fun c43 h43 => (xite (fun c42 h42 => (xgo b_X2_faultOfPair_70 (xitT (by decide) (xitT (by decide) (xite (fun c41 h41 => (xite (fun c40 h40 => (xite (fun c39 h39 => (xitT (by decide) h39)) (fun c39 h39 => h39) h40)) (fun c40 h40 => h40) h41)) (fun c41 h41 => h41) h42))))) (fun c42 h42 => (xgo b_X2_faultOfPair_70 (xitF (by decide) h42))) h43)) (fun c43 h43 => h43) h44)) (fun c44 h44 => (xgo b_X2_faultOfPair_70 (xitF (by decide) h44))) h45)) (fun c45 h45 => h45) h46))) h47)) (fun c47 h47 => h47) h48)) h49)) (fun c49 h49 => h49) h50)) (fun c50 h50 => h50) h51)))) (fun c51 h51 => h51) h))))
set_option maxRecDepth 100000 in
theorem c_X2_hasElement {F : xQ} {I : xI} {L : xL} {z : Bool × Bool × Nat} {a1 : Int32} {a2 : Int32} (h : (if p_X2_hasRow I L a1 then (if a2 < 0 then F (some (.int 0)) (xS I L z) else (if xin a1 (8) then (if a2 < (I 59 (Int32.toNatClampNeg a1)) then (if a2 < 40 then F (some (.int 1)) (xS I L z) else F (some (.int 0)) (xS I L z)) else F (some (.int 0)) (xS I L z)) else False)) else F (some (.int 0)) (xS I L z))) : xCd 2 42 [.ref 57, .int a1, .int a2] (xS I L z) F := by
  have hd : 1 ≤ 1 := Nat.le_refl _
  exact xin_ (T := k_X2_hasElement) (rt := 2) (ls := [some (.ref 57), some (.int a1), some (.int a2)]) rfl rfl rfl rfl (xgo b_X2_hasElement_0 (xuse1 s_X2_hasRow (Nat.le_trans (by decide) hd) (xgo b_X2_hasElement_5 (xiteB (fun c56 h56 => h56) (fun c56 h56 => h56) h))))
abbrev p_X2_hasElement (I : xI) (L : xL) (a1 : Int32) (a2 : Int32) : Prop := (p_X2_hasRow I L a1 ∧ (¬ a2 < 0 ∧ (xin a1 (8) ∧ (a2 < (I 59 (Int32.toNatClampNeg a1)) ∧ a2 < 40))))
set_option maxRecDepth 100000 in
theorem s_X2_hasElement {I : xI} {L : xL} {z : Bool × Bool × Nat} {a1 : Int32} {a2 : Int32} : xCd 2 42 [.ref 57, .int a1, .int a2] (xS I L z) (fun r τ => r = some (.int (if p_X2_hasElement I L a1 a2 then 1 else 0)) ∧ τ = xS I L z) := by
  by_cases hp : p_X2_hasElement I L a1 a2
  · rw [if_pos hp]
    refine c_X2_hasElement ?_
    try simp only [p_X2_hasElement, p_X2_hasRow] at *
    try dsimp only
    repeat' split
    all_goals first | exact ⟨rfl, rfl⟩ | (exfalso; simp_all; done) | (exfalso; simp only [xin_iff, Int32.lt_iff_toInt_lt] at *; simp at *; omega) | grind
  · rw [if_neg hp]
    refine c_X2_hasElement ?_
    try simp only [p_X2_hasElement, p_X2_hasRow] at *
    try dsimp only
    repeat' split
    all_goals first | exact ⟨rfl, rfl⟩ | (exfalso; simp_all; done) | (exfalso; simp only [xin_iff, Int32.lt_iff_toInt_lt] at *; simp at *; omega) | grind
set_option maxRecDepth 100000 in
theorem c_X2_hasElements {F : xQ} {I : xI} {L : xL} {z : Bool × Bool × Nat} {a1 : Int32} {a2 : Int32} {a3 : Int32} (h : (if p_X2_hasRow I L a1 then (if a2 < 0 then F (some (.int 0)) (xS I L z) else (if a3 < 0 then F (some (.int 0)) (xS I L z) else (if xin a1 (8) then (if (I 59 (Int32.toNatClampNeg a1)) < a3 then F (some (.int 0)) (xS I L z) else (if xin a1 (8) then (if ((I 59 (Int32.toNatClampNeg a1)) - a3) < a2 then F (some (.int 0)) (xS I L z) else F (some (.int 1)) (xS I L z)) else False)) else False))) else F (some (.int 0)) (xS I L z))) : xCd 2 43 [.ref 57, .int a1, .int a2, .int a3] (xS I L z) F := by
  have hd : 1 ≤ 1 := Nat.le_refl _
  exact xin_ (T := k_X2_hasElements) (rt := 2) (ls := [some (.ref 57), some (.int a1), some (.int a2), some (.int a3)]) rfl rfl rfl rfl (xgo b_X2_hasElements_0 (xuse1 s_X2_hasRow (Nat.le_trans (by decide) hd) (xgo b_X2_hasElements_5 (xiteB (fun c63 h63 => h63) (fun c63 h63 => h63) h))))
abbrev p_X2_hasElements (I : xI) (L : xL) (a1 : Int32) (a2 : Int32) (a3 : Int32) : Prop := (p_X2_hasRow I L a1 ∧ (¬ a2 < 0 ∧ (¬ a3 < 0 ∧ (xin a1 (8) ∧ (¬ (I 59 (Int32.toNatClampNeg a1)) < a3 ∧ (xin a1 (8) ∧ ¬ ((I 59 (Int32.toNatClampNeg a1)) - a3) < a2))))))
set_option maxRecDepth 100000 in
theorem s_X2_hasElements {I : xI} {L : xL} {z : Bool × Bool × Nat} {a1 : Int32} {a2 : Int32} {a3 : Int32} : xCd 2 43 [.ref 57, .int a1, .int a2, .int a3] (xS I L z) (fun r τ => r = some (.int (if p_X2_hasElements I L a1 a2 a3 then 1 else 0)) ∧ τ = xS I L z) := by
  by_cases hp : p_X2_hasElements I L a1 a2 a3
  · rw [if_pos hp]
    refine c_X2_hasElements ?_
    try simp only [p_X2_hasElements, p_X2_hasRow] at *
    try dsimp only
    repeat' split
    all_goals first | exact ⟨rfl, rfl⟩ | (exfalso; simp_all; done) | (exfalso; simp only [xin_iff, Int32.lt_iff_toInt_lt] at *; simp at *; omega) | grind
  · rw [if_neg hp]
    refine c_X2_hasElements ?_
    try simp only [p_X2_hasElements, p_X2_hasRow] at *
    try dsimp only
    repeat' split
    all_goals first | exact ⟨rfl, rfl⟩ | (exfalso; simp_all; done) | (exfalso; simp only [xin_iff, Int32.lt_iff_toInt_lt] at *; simp at *; omega) | grind
set_option maxRecDepth 100000 in
theorem c_X2_putTeller {F : xQ} {I : xI} {L : xL} {z : Bool × Bool × Nat} {a1 : Int32} {a2 : Int32} (h : (if p_X2_isShelf I L a1 then (if a2 = (-1 : Int32) then (if xin a1 (8) then F none (xS (xw I 58 (Int32.toNatClampNeg a1) (-1 : Int32)) L z) else False) else (if xin a1 (8) then F none (xS (xw I 58 (Int32.toNatClampNeg a1) (10 + a2)) L z) else False)) else F none (xS I L z))) : xCd 2 45 [.ref 57, .int a1, .int a2] (xS I L z) F := by
  have hd : 1 ≤ 1 := Nat.le_refl _
  exact xin_ (T := k_X2_putTeller) (rt := 0) (ls := [some (.ref 57), some (.int a1), some (.int a2)]) rfl rfl rfl rfl (xgo b_X2_putTeller_0 (xuse1 s_X2_isShelf (Nat.le_trans (by decide) hd) (xgo b_X2_putTeller_4 (xiteB (fun c67 h67 => h67) (fun c67 h67 => h67) h))))
set_option maxRecDepth 100000 in
theorem c_X2_cutTo {F : xQ} {I : xI} {L : xL} {z : Bool × Bool × Nat} {a0 : Int32} {a1 : Int64} (h : (if a0 = 0 then F (some (.long (Int32.toInt64 ((Int32.toInt8 (Int64.toInt32 a1)).toInt32)))) (xS I L z) else (if a0 = 1 then F (some (.long (Int32.toInt64 ((Int32.toInt16 (Int64.toInt32 a1)).toInt32)))) (xS I L z) else (if a0 = 2 then F (some (.long (Int32.toInt64 (Int64.toInt32 a1)))) (xS I L z) else (if a0 = 3 then F (some (.long a1)) (xS I L z) else (if (if a1 < (Int64.ofNat 0) then -1 else if a1 = (Int64.ofNat 0) then 0 else 1 : Int32) = 0 then F (some (.long (Int64.ofNat 0))) (xS I L z) else F (some (.long (Int64.ofNat 1))) (xS I L z))))))) : xCd 1 47 [.int a0, .long a1] (xS I L z) F := by
  have hd : 0 ≤ 0 := Nat.le_refl _
  exact xin_ (T := k_X2_cutTo) (rt := 3) (ls := [some (.int a0), some (.long a1), none]) rfl rfl rfl rfl (xgo b_X2_cutTo_0 h)
def f_X2_cutTo (I : xI) (L : xL) (a0 : Int32) (a1 : Int64) : Int64 := (if a0 = 0 then Int32.toInt64 ((Int32.toInt8 (Int64.toInt32 a1)).toInt32) else (if a0 = 1 then Int32.toInt64 ((Int32.toInt16 (Int64.toInt32 a1)).toInt32) else (if a0 = 2 then Int32.toInt64 (Int64.toInt32 a1) else (if a0 = 3 then a1 else (if (if a1 < (Int64.ofNat 0) then -1 else if a1 = (Int64.ofNat 0) then 0 else 1 : Int32) = 0 then Int64.ofNat 0 else Int64.ofNat 1)))))
set_option maxRecDepth 100000 in
theorem s_X2_cutTo {I : xI} {L : xL} {z : Bool × Bool × Nat} {a0 : Int32} {a1 : Int64} : xCd 1 47 [.int a0, .long a1] (xS I L z) (fun r τ => r = some (.long (f_X2_cutTo I L a0 a1)) ∧ τ = xS I L z) := by
  unfold f_X2_cutTo
  refine c_X2_cutTo ?_
  skip
  try dsimp only
  repeat' split
  all_goals first | exact ⟨rfl, rfl⟩ | (exfalso; simp_all; done) | (exfalso; simp only [xin_iff, Int32.lt_iff_toInt_lt] at *; simp at *; omega) | grind
set_option maxRecDepth 100000 in
theorem c_X2_elementOf {F : xQ} {I : xI} {L : xL} {z : Bool × Bool × Nat} {a1 : Int32} {a2 : Int32} (h : (if p_X2_hasElement I L a1 a2 then (if xin ((a1 * 40) + a2) (320) then F (some (.long (L 60 (Int32.toNatClampNeg ((a1 * 40) + a2))))) (xS I L z) else False) else F (some (.long (Int64.ofNat 0))) (xS I L z))) : xCd 3 48 [.ref 57, .int a1, .int a2] (xS I L z) F := by
  have hd : 2 ≤ 2 := Nat.le_refl _
  exact xin_ (T := k_X2_elementOf) (rt := 3) (ls := [some (.ref 57), some (.int a1), some (.int a2)]) rfl rfl rfl rfl (xgo b_X2_elementOf_0 (xuse1 s_X2_hasElement (Nat.le_trans (by decide) hd) (xgo b_X2_elementOf_6 (xiteB (fun c76 h76 => h76) (fun c76 h76 => h76) h))))
set_option maxRecDepth 100000 in
theorem c_X2_copyElements {F : xQ} {I : xI} {L : xL} {z : Bool × Bool × Nat} {a1 : Int32} {a2 : Int32} {a3 : Int32} {a4 : Int32} {a5 : Int32} (h : (if p_X2_hasElements I L a1 a3 a5 then (if p_X2_hasElements I L a2 a4 a5 then (if xcpOK a5 ((a2 * 40) + a4) ((a1 * 40) + a3) (320) (320) then F none (xS I (xcpl L (60) (Int32.toNatClampNeg ((a1 * 40) + a3)) (60) (Int32.toNatClampNeg ((a2 * 40) + a4)) (Int32.toNatClampNeg a5)) z) else False) else F none (xS I L z)) else F none (xS I L z))) : xCd 3 49 [.ref 57, .int a1, .int a2, .int a3, .int a4, .int a5] (xS I L z) F := by
  have hd : 2 ≤ 2 := Nat.le_refl _
  exact xin_ (T := k_X2_copyElements) (rt := 0) (ls := [some (.ref 57), some (.int a1), some (.int a2), some (.int a3), some (.int a4), some (.int a5)]) rfl rfl rfl rfl (xgo b_X2_copyElements_0 (xuse1 s_X2_hasElements (Nat.le_trans (by decide) hd) (xgo b_X2_copyElements_8 (xiteB (fun c79 h79 => (xuse1 s_X2_hasElements (Nat.le_trans (by decide) hd) (xgo b_X2_copyElements_20 (xiteB (fun c78 h78 => (xite (fun c77 h77 => (xgo b_X2_copyElements_49 h77)) (fun c77 h77 => h77) h78)) (fun c78 h78 => (xgo b_X2_copyElements_49 h78)) h79)))) (fun c79 h79 => (xgo b_X2_copyElements_49 h79)) h))))
set_option maxRecDepth 100000 in
theorem c_X3_start {F : xQ} {I : xI} {L : xL} {z : Bool × Bool × Nat}  (h : F none (xS (xw I 44 3 ((I 44 3) + 1)) L z)) : xCd 1 53 [.ref 44] (xS I L z) F := by
  have hd : 0 ≤ 0 := Nat.le_refl _
  exact xin_ (T := k_X3_start) (rt := 0) (ls := [some (.ref 44)]) rfl rfl rfl rfl (xgo b_X3_start_0 h)
set_option maxRecDepth 100000 in
theorem c_X4_put {F : xQ} {I : xI} {L : xL} {z : Bool × Bool × Nat} {a1 : Int32} (h : (if (I 61 0) < 0 then F (some (.int 0)) (xS I L z) else (if (I 61 0) < 250 then (if xin (I 61 0) (250) then F (some (.int 1)) (xS (xw (xw I 62 (Int32.toNatClampNeg (I 61 0)) a1) 61 0 (((xw I 62 (Int32.toNatClampNeg (I 61 0)) a1) 61 0) + 1)) L z) else False) else F (some (.int 0)) (xS I L z)))) : xCd 1 56 [.ref 61, .int a1] (xS I L z) F := by
  have hd : 0 ≤ 0 := Nat.le_refl _
  exact xin_ (T := k_X4_put) (rt := 2) (ls := [some (.ref 61), some (.int a1)]) rfl rfl rfl rfl (xgo b_X4_put_0 h)
set_option maxRecDepth 100000 in
theorem c_X4_byteAt {F : xQ} {I : xI} {L : xL} {z : Bool × Bool × Nat} {a1 : Int32} (h : (if a1 < 0 then F (some (.int (-1 : Int32))) (xS I L z) else (if a1 < (I 61 0) then (if a1 < 250 then (if xin a1 (250) then F (some (.int (I 62 (Int32.toNatClampNeg a1)))) (xS I L z) else False) else F (some (.int (-1 : Int32))) (xS I L z)) else F (some (.int (-1 : Int32))) (xS I L z)))) : xCd 1 58 [.ref 61, .int a1] (xS I L z) F := by
  have hd : 0 ≤ 0 := Nat.le_refl _
  exact xin_ (T := k_X4_byteAt) (rt := 1) (ls := [some (.ref 61), some (.int a1)]) rfl rfl rfl rfl (xgo b_X4_byteAt_0 h)
def f_X4_byteAt (I : xI) (L : xL) (a1 : Int32) : Int32 := (if a1 < 0 then (-1 : Int32) else (if a1 < (I 61 0) then (if a1 < 250 then (if xin a1 (250) then I 62 (Int32.toNatClampNeg a1) else 0) else (-1 : Int32)) else (-1 : Int32)))
set_option maxRecDepth 100000 in
theorem s_X4_byteAt {I : xI} {L : xL} {z : Bool × Bool × Nat} {a1 : Int32} : xCd 1 58 [.ref 61, .int a1] (xS I L z) (fun r τ => r = some (.int (f_X4_byteAt I L a1)) ∧ τ = xS I L z) := by
  unfold f_X4_byteAt
  refine c_X4_byteAt ?_
  skip
  try dsimp only
  repeat' split
  all_goals first | exact ⟨rfl, rfl⟩ | (exfalso; simp_all; done) | (exfalso; simp only [xin_iff, Int32.lt_iff_toInt_lt] at *; simp at *; omega) | grind
set_option maxRecDepth 100000 in
theorem c_X4_isLetter {F : xQ} {I : xI} {L : xL} {z : Bool × Bool × Nat} {a0 : Int32} (h : (if a0 < 97 then F (some (.int 0)) (xS I L z) else (if 122 < a0 then F (some (.int 0)) (xS I L z) else F (some (.int 1)) (xS I L z)))) : xCd 1 59 [.int a0] (xS I L z) F := by
  have hd : 0 ≤ 0 := Nat.le_refl _
  exact xin_ (T := k_X4_isLetter) (rt := 2) (ls := [some (.int a0)]) rfl rfl rfl rfl (xgo b_X4_isLetter_0 h)
abbrev p_X4_isLetter (I : xI) (L : xL) (a0 : Int32) : Prop := (¬ a0 < 97 ∧ ¬ 122 < a0)
set_option maxRecDepth 100000 in
theorem s_X4_isLetter {I : xI} {L : xL} {z : Bool × Bool × Nat} {a0 : Int32} : xCd 1 59 [.int a0] (xS I L z) (fun r τ => r = some (.int (if p_X4_isLetter I L a0 then 1 else 0)) ∧ τ = xS I L z) := by
  by_cases hp : p_X4_isLetter I L a0
  · rw [if_pos hp]
    refine c_X4_isLetter ?_
    try simp only [p_X4_isLetter] at *
    try dsimp only
    repeat' split
    all_goals first | exact ⟨rfl, rfl⟩ | (exfalso; simp_all; done) | (exfalso; simp only [xin_iff, Int32.lt_iff_toInt_lt] at *; simp at *; omega) | grind
  · rw [if_neg hp]
    refine c_X4_isLetter ?_
    try simp only [p_X4_isLetter] at *
    try dsimp only
    repeat' split
    all_goals first | exact ⟨rfl, rfl⟩ | (exfalso; simp_all; done) | (exfalso; simp only [xin_iff, Int32.lt_iff_toInt_lt] at *; simp at *; omega) | grind
set_option maxRecDepth 100000 in
theorem c_X4_isDigit {F : xQ} {I : xI} {L : xL} {z : Bool × Bool × Nat} {a0 : Int32} (h : (if a0 < 48 then F (some (.int 0)) (xS I L z) else (if 57 < a0 then F (some (.int 0)) (xS I L z) else F (some (.int 1)) (xS I L z)))) : xCd 1 60 [.int a0] (xS I L z) F := by
  have hd : 0 ≤ 0 := Nat.le_refl _
  exact xin_ (T := k_X4_isDigit) (rt := 2) (ls := [some (.int a0)]) rfl rfl rfl rfl (xgo b_X4_isDigit_0 h)
abbrev p_X4_isDigit (I : xI) (L : xL) (a0 : Int32) : Prop := (¬ a0 < 48 ∧ ¬ 57 < a0)
set_option maxRecDepth 100000 in
theorem s_X4_isDigit {I : xI} {L : xL} {z : Bool × Bool × Nat} {a0 : Int32} : xCd 1 60 [.int a0] (xS I L z) (fun r τ => r = some (.int (if p_X4_isDigit I L a0 then 1 else 0)) ∧ τ = xS I L z) := by
  by_cases hp : p_X4_isDigit I L a0
  · rw [if_pos hp]
    refine c_X4_isDigit ?_
    try simp only [p_X4_isDigit] at *
    try dsimp only
    repeat' split
    all_goals first | exact ⟨rfl, rfl⟩ | (exfalso; simp_all; done) | (exfalso; simp only [xin_iff, Int32.lt_iff_toInt_lt] at *; simp at *; omega) | grind
  · rw [if_neg hp]
    refine c_X4_isDigit ?_
    try simp only [p_X4_isDigit] at *
    try dsimp only
    repeat' split
    all_goals first | exact ⟨rfl, rfl⟩ | (exfalso; simp_all; done) | (exfalso; simp only [xin_iff, Int32.lt_iff_toInt_lt] at *; simp at *; omega) | grind
set_option maxRecDepth 100000 in
theorem c_X4_failAt {F : xQ} {I : xI} {L : xL} {z : Bool × Bool × Nat} {a1 : Int32} (h : F (some (.int 0)) (xS (xw I 61 1 a1) L z)) : xCd 1 63 [.ref 61, .int a1] (xS I L z) F := by
  have hd : 0 ≤ 0 := Nat.le_refl _
  exact xin_ (T := k_X4_failAt) (rt := 2) (ls := [some (.ref 61), some (.int a1)]) rfl rfl rfl rfl (xgo b_X4_failAt_0 h)
set_option maxRecDepth 100000 in
theorem c_X5_isKind {F : xQ} {I : xI} {L : xL} {z : Bool × Bool × Nat} {a0 : Int32} (h : (if a0 < 0 then F (some (.int 0)) (xS I L z) else (if a0 < 6 then F (some (.int 1)) (xS I L z) else F (some (.int 0)) (xS I L z)))) : xCd 1 73 [.int a0] (xS I L z) F := by
  have hd : 0 ≤ 0 := Nat.le_refl _
  exact xin_ (T := k_X5_isKind) (rt := 2) (ls := [some (.int a0)]) rfl rfl rfl rfl (xgo b_X5_isKind_0 h)
abbrev p_X5_isKind (I : xI) (L : xL) (a0 : Int32) : Prop := (¬ a0 < 0 ∧ a0 < 6)
set_option maxRecDepth 100000 in
theorem s_X5_isKind {I : xI} {L : xL} {z : Bool × Bool × Nat} {a0 : Int32} : xCd 1 73 [.int a0] (xS I L z) (fun r τ => r = some (.int (if p_X5_isKind I L a0 then 1 else 0)) ∧ τ = xS I L z) := by
  by_cases hp : p_X5_isKind I L a0
  · rw [if_pos hp]
    refine c_X5_isKind ?_
    try simp only [p_X5_isKind] at *
    try dsimp only
    repeat' split
    all_goals first | exact ⟨rfl, rfl⟩ | (exfalso; simp_all; done) | (exfalso; simp only [xin_iff, Int32.lt_iff_toInt_lt] at *; simp at *; omega) | grind
  · rw [if_neg hp]
    refine c_X5_isKind ?_
    try simp only [p_X5_isKind] at *
    try dsimp only
    repeat' split
    all_goals first | exact ⟨rfl, rfl⟩ | (exfalso; simp_all; done) | (exfalso; simp only [xin_iff, Int32.lt_iff_toInt_lt] at *; simp at *; omega) | grind
set_option maxRecDepth 100000 in
theorem c_X6_hasPlace {F : xQ} {I : xI} {L : xL} {z : Bool × Bool × Nat} {a1 : Int32} (h : (if a1 < 0 then F (some (.int 0)) (xS I L z) else (if a1 < (I 10 0) then (if a1 < 6 then F (some (.int 1)) (xS I L z) else F (some (.int 0)) (xS I L z)) else F (some (.int 0)) (xS I L z)))) : xCd 1 82 [.ref 10, .int a1] (xS I L z) F := by
  have hd : 0 ≤ 0 := Nat.le_refl _
  exact xin_ (T := k_X6_hasPlace) (rt := 2) (ls := [some (.ref 10), some (.int a1)]) rfl rfl rfl rfl (xgo b_X6_hasPlace_0 h)
abbrev p_X6_hasPlace (I : xI) (L : xL) (a1 : Int32) : Prop := (¬ a1 < 0 ∧ (a1 < (I 10 0) ∧ a1 < 6))
set_option maxRecDepth 100000 in
theorem s_X6_hasPlace {I : xI} {L : xL} {z : Bool × Bool × Nat} {a1 : Int32} : xCd 1 82 [.ref 10, .int a1] (xS I L z) (fun r τ => r = some (.int (if p_X6_hasPlace I L a1 then 1 else 0)) ∧ τ = xS I L z) := by
  by_cases hp : p_X6_hasPlace I L a1
  · rw [if_pos hp]
    refine c_X6_hasPlace ?_
    try simp only [p_X6_hasPlace] at *
    try dsimp only
    repeat' split
    all_goals first | exact ⟨rfl, rfl⟩ | (exfalso; simp_all; done) | (exfalso; simp only [xin_iff, Int32.lt_iff_toInt_lt] at *; simp at *; omega) | grind
  · rw [if_neg hp]
    refine c_X6_hasPlace ?_
    try simp only [p_X6_hasPlace] at *
    try dsimp only
    repeat' split
    all_goals first | exact ⟨rfl, rfl⟩ | (exfalso; simp_all; done) | (exfalso; simp only [xin_iff, Int32.lt_iff_toInt_lt] at *; simp at *; omega) | grind
set_option maxRecDepth 100000 in
theorem c_X6_hasTeller {F : xQ} {I : xI} {L : xL} {z : Bool × Bool × Nat} {a1 : Int32} (h : (if a1 < 0 then F (some (.int 0)) (xS I L z) else (if a1 < (I 10 4) then (if a1 < 4 then F (some (.int 1)) (xS I L z) else F (some (.int 0)) (xS I L z)) else F (some (.int 0)) (xS I L z)))) : xCd 1 83 [.ref 10, .int a1] (xS I L z) F := by
  have hd : 0 ≤ 0 := Nat.le_refl _
  exact xin_ (T := k_X6_hasTeller) (rt := 2) (ls := [some (.ref 10), some (.int a1)]) rfl rfl rfl rfl (xgo b_X6_hasTeller_0 h)
abbrev p_X6_hasTeller (I : xI) (L : xL) (a1 : Int32) : Prop := (¬ a1 < 0 ∧ (a1 < (I 10 4) ∧ a1 < 4))
set_option maxRecDepth 100000 in
theorem s_X6_hasTeller {I : xI} {L : xL} {z : Bool × Bool × Nat} {a1 : Int32} : xCd 1 83 [.ref 10, .int a1] (xS I L z) (fun r τ => r = some (.int (if p_X6_hasTeller I L a1 then 1 else 0)) ∧ τ = xS I L z) := by
  by_cases hp : p_X6_hasTeller I L a1
  · rw [if_pos hp]
    refine c_X6_hasTeller ?_
    try simp only [p_X6_hasTeller] at *
    try dsimp only
    repeat' split
    all_goals first | exact ⟨rfl, rfl⟩ | (exfalso; simp_all; done) | (exfalso; simp only [xin_iff, Int32.lt_iff_toInt_lt] at *; simp at *; omega) | grind
  · rw [if_neg hp]
    refine c_X6_hasTeller ?_
    try simp only [p_X6_hasTeller] at *
    try dsimp only
    repeat' split
    all_goals first | exact ⟨rfl, rfl⟩ | (exfalso; simp_all; done) | (exfalso; simp only [xin_iff, Int32.lt_iff_toInt_lt] at *; simp at *; omega) | grind
set_option maxRecDepth 100000 in
theorem c_X6_kindOf {F : xQ} {I : xI} {L : xL} {z : Bool × Bool × Nat} {a1 : Int32} (h : (if p_X6_hasTeller I L a1 then (if xin a1 (4) then F (some (.int (I 17 (Int32.toNatClampNeg a1)))) (xS I L z) else False) else F (some (.int (-1 : Int32))) (xS I L z))) : xCd 2 84 [.ref 10, .int a1] (xS I L z) F := by
  have hd : 1 ≤ 1 := Nat.le_refl _
  exact xin_ (T := k_X6_kindOf) (rt := 1) (ls := [some (.ref 10), some (.int a1)]) rfl rfl rfl rfl (xgo b_X6_kindOf_0 (xuse1 s_X6_hasTeller (Nat.le_trans (by decide) hd) (xgo b_X6_kindOf_5 (xiteB (fun c101 h101 => h101) (fun c101 h101 => h101) h))))
def f_X6_kindOf (I : xI) (L : xL) (a1 : Int32) : Int32 := (if p_X6_hasTeller I L a1 then (if xin a1 (4) then I 17 (Int32.toNatClampNeg a1) else 0) else (-1 : Int32))
set_option maxRecDepth 100000 in
theorem s_X6_kindOf {I : xI} {L : xL} {z : Bool × Bool × Nat} {a1 : Int32} : xCd 2 84 [.ref 10, .int a1] (xS I L z) (fun r τ => r = some (.int (f_X6_kindOf I L a1)) ∧ τ = xS I L z) := by
  unfold f_X6_kindOf
  refine c_X6_kindOf ?_
  try simp only [p_X6_hasTeller] at *
  try dsimp only
  repeat' split
  all_goals first | exact ⟨rfl, rfl⟩ | (exfalso; simp_all; done) | (exfalso; simp only [xin_iff, Int32.lt_iff_toInt_lt] at *; simp at *; omega) | grind
set_option maxRecDepth 100000 in
theorem c_X6_tellerNumberOf {F : xQ} {I : xI} {L : xL} {z : Bool × Bool × Nat} {a1 : Int32} (h : (if p_X6_hasTeller I L a1 then (if xin a1 (4) then F (some (.int (I 18 (Int32.toNatClampNeg a1)))) (xS I L z) else False) else F (some (.int 0)) (xS I L z))) : xCd 2 85 [.ref 10, .int a1] (xS I L z) F := by
  have hd : 1 ≤ 1 := Nat.le_refl _
  exact xin_ (T := k_X6_tellerNumberOf) (rt := 1) (ls := [some (.ref 10), some (.int a1)]) rfl rfl rfl rfl (xgo b_X6_tellerNumberOf_0 (xuse1 s_X6_hasTeller (Nat.le_trans (by decide) hd) (xgo b_X6_tellerNumberOf_5 (xiteB (fun c103 h103 => h103) (fun c103 h103 => h103) h))))
def f_X6_tellerNumberOf (I : xI) (L : xL) (a1 : Int32) : Int32 := (if p_X6_hasTeller I L a1 then (if xin a1 (4) then I 18 (Int32.toNatClampNeg a1) else 0) else 0)
set_option maxRecDepth 100000 in
theorem s_X6_tellerNumberOf {I : xI} {L : xL} {z : Bool × Bool × Nat} {a1 : Int32} : xCd 2 85 [.ref 10, .int a1] (xS I L z) (fun r τ => r = some (.int (f_X6_tellerNumberOf I L a1)) ∧ τ = xS I L z) := by
  unfold f_X6_tellerNumberOf
  refine c_X6_tellerNumberOf ?_
  try simp only [p_X6_hasTeller] at *
  try dsimp only
  repeat' split
  all_goals first | exact ⟨rfl, rfl⟩ | (exfalso; simp_all; done) | (exfalso; simp only [xin_iff, Int32.lt_iff_toInt_lt] at *; simp at *; omega) | grind
set_option maxRecDepth 100000 in
theorem c_X6_addTeller {F : xQ} {I : xI} {L : xL} {z : Bool × Bool × Nat} {a1 : Int32} {a2 : Int32} (h : (if (I 10 4) < 0 then F (some (.int (-1 : Int32))) (xS I L z) else (if (I 10 4) < 4 then (if xin (I 10 4) (4) then (if xin (I 10 4) (4) then F (some (.int (I 10 4))) (xS (xw (xw (xw I 17 (Int32.toNatClampNeg (I 10 4)) a1) 18 (Int32.toNatClampNeg (I 10 4)) a2) 10 4 (((xw (xw I 17 (Int32.toNatClampNeg (I 10 4)) a1) 18 (Int32.toNatClampNeg (I 10 4)) a2) 10 4) + 1)) L z) else False) else False) else F (some (.int (-1 : Int32))) (xS I L z)))) : xCd 1 86 [.ref 10, .int a1, .int a2] (xS I L z) F := by
  have hd : 0 ≤ 0 := Nat.le_refl _
  exact xin_ (T := k_X6_addTeller) (rt := 1) (ls := [some (.ref 10), some (.int a1), some (.int a2), none]) rfl rfl rfl rfl (xgo b_X6_addTeller_0 h)
set_option maxRecDepth 100000 in
theorem c_X6_setLaw {F : xQ} {I : xI} {L : xL} {z : Bool × Bool × Nat} {a1 : Int32} (h : F none (xS (xw (xw I 10 1 a1) 10 5 1) L z)) : xCd 1 89 [.ref 10, .int a1] (xS I L z) F := by
  have hd : 0 ≤ 0 := Nat.le_refl _
  exact xin_ (T := k_X6_setLaw) (rt := 0) (ls := [some (.ref 10), some (.int a1)]) rfl rfl rfl rfl (xgo b_X6_setLaw_0 h)
set_option maxRecDepth 100000 in
theorem c_X6_setNumber {F : xQ} {I : xI} {L : xL} {z : Bool × Bool × Nat} {a1 : Int32} {a2 : Int32} {a3 : Int32} (h : (if ((a1 * 3) + a2) < 0 then F none (xS (xw I 10 6 1) L z) else (if ((a1 * 3) + a2) < 18 then (if xin ((a1 * 3) + a2) (18) then F none (xS (xw (xw I 13 (Int32.toNatClampNeg ((a1 * 3) + a2)) a3) 10 6 1) L z) else False) else F none (xS (xw I 10 6 1) L z)))) : xCd 1 91 [.ref 10, .int a1, .int a2, .int a3] (xS I L z) F := by
  have hd : 0 ≤ 0 := Nat.le_refl _
  exact xin_ (T := k_X6_setNumber) (rt := 0) (ls := [some (.ref 10), some (.int a1), some (.int a2), some (.int a3), none]) rfl rfl rfl rfl (xgo b_X6_setNumber_0 h)
set_option maxRecDepth 100000 in
theorem c_X6_setGuest {F : xQ} {I : xI} {L : xL} {z : Bool × Bool × Nat} {a1 : Int32} {a2 : Int32} {a3 : Int32} (h : (if p_X6_hasPlace I L a1 then (if xin a1 (6) then (if xin a1 (6) then F none (xS (xw (xw I 14 (Int32.toNatClampNeg a1) a2) 15 (Int32.toNatClampNeg a1) a3) L z) else False) else False) else F none (xS I L z))) : xCd 2 92 [.ref 10, .int a1, .int a2, .int a3] (xS I L z) F := by
  have hd : 1 ≤ 1 := Nat.le_refl _
  exact xin_ (T := k_X6_setGuest) (rt := 0) (ls := [some (.ref 10), some (.int a1), some (.int a2), some (.int a3)]) rfl rfl rfl rfl (xgo b_X6_setGuest_0 (xuse1 s_X6_hasPlace (Nat.le_trans (by decide) hd) (xgo b_X6_setGuest_5 (xiteB (fun c113 h113 => h113) (fun c113 h113 => h113) h))))
set_option maxRecDepth 100000 in
theorem c_X6_wantOf {F : xQ} {I : xI} {L : xL} {z : Bool × Bool × Nat} {a1 : Int32} (h : (if a1 < 0 then F (some (.int (-1 : Int32))) (xS I L z) else (if a1 < 6 then (if xin a1 (6) then F (some (.int (I 14 (Int32.toNatClampNeg a1)))) (xS I L z) else False) else F (some (.int (-1 : Int32))) (xS I L z)))) : xCd 1 93 [.ref 10, .int a1] (xS I L z) F := by
  have hd : 0 ≤ 0 := Nat.le_refl _
  exact xin_ (T := k_X6_wantOf) (rt := 1) (ls := [some (.ref 10), some (.int a1)]) rfl rfl rfl rfl (xgo b_X6_wantOf_0 h)
def f_X6_wantOf (I : xI) (L : xL) (a1 : Int32) : Int32 := (if a1 < 0 then (-1 : Int32) else (if a1 < 6 then (if xin a1 (6) then I 14 (Int32.toNatClampNeg a1) else 0) else (-1 : Int32)))
set_option maxRecDepth 100000 in
theorem s_X6_wantOf {I : xI} {L : xL} {z : Bool × Bool × Nat} {a1 : Int32} : xCd 1 93 [.ref 10, .int a1] (xS I L z) (fun r τ => r = some (.int (f_X6_wantOf I L a1)) ∧ τ = xS I L z) := by
  unfold f_X6_wantOf
  refine c_X6_wantOf ?_
  skip
  try dsimp only
  repeat' split
  all_goals first | exact ⟨rfl, rfl⟩ | (exfalso; simp_all; done) | (exfalso; simp only [xin_iff, Int32.lt_iff_toInt_lt] at *; simp at *; omega) | grind
set_option maxRecDepth 100000 in
theorem c_X6_mindOf {F : xQ} {I : xI} {L : xL} {z : Bool × Bool × Nat} {a1 : Int32} (h : (if a1 < 0 then F (some (.int 0)) (xS I L z) else (if a1 < 6 then (if xin a1 (6) then F (some (.int (I 15 (Int32.toNatClampNeg a1)))) (xS I L z) else False) else F (some (.int 0)) (xS I L z)))) : xCd 1 94 [.ref 10, .int a1] (xS I L z) F := by
  have hd : 0 ≤ 0 := Nat.le_refl _
  exact xin_ (T := k_X6_mindOf) (rt := 1) (ls := [some (.ref 10), some (.int a1)]) rfl rfl rfl rfl (xgo b_X6_mindOf_0 h)
def f_X6_mindOf (I : xI) (L : xL) (a1 : Int32) : Int32 := (if a1 < 0 then 0 else (if a1 < 6 then (if xin a1 (6) then I 15 (Int32.toNatClampNeg a1) else 0) else 0))
set_option maxRecDepth 100000 in
theorem s_X6_mindOf {I : xI} {L : xL} {z : Bool × Bool × Nat} {a1 : Int32} : xCd 1 94 [.ref 10, .int a1] (xS I L z) (fun r τ => r = some (.int (f_X6_mindOf I L a1)) ∧ τ = xS I L z) := by
  unfold f_X6_mindOf
  refine c_X6_mindOf ?_
  skip
  try dsimp only
  repeat' split
  all_goals first | exact ⟨rfl, rfl⟩ | (exfalso; simp_all; done) | (exfalso; simp only [xin_iff, Int32.lt_iff_toInt_lt] at *; simp at *; omega) | grind
set_option maxRecDepth 100000 in
theorem c_X6_truthAt {F : xQ} {I : xI} {L : xL} {z : Bool × Bool × Nat} {a1 : Int32} (h : (if a1 < 0 then F (some (.int 0)) (xS I L z) else (if a1 < 6 then (if xin a1 (6) then F (some (.int (I 12 (Int32.toNatClampNeg a1)))) (xS I L z) else False) else F (some (.int 0)) (xS I L z)))) : xCd 1 95 [.ref 10, .int a1] (xS I L z) F := by
  have hd : 0 ≤ 0 := Nat.le_refl _
  exact xin_ (T := k_X6_truthAt) (rt := 1) (ls := [some (.ref 10), some (.int a1)]) rfl rfl rfl rfl (xgo b_X6_truthAt_0 h)
def f_X6_truthAt (I : xI) (L : xL) (a1 : Int32) : Int32 := (if a1 < 0 then 0 else (if a1 < 6 then (if xin a1 (6) then I 12 (Int32.toNatClampNeg a1) else 0) else 0))
set_option maxRecDepth 100000 in
theorem s_X6_truthAt {I : xI} {L : xL} {z : Bool × Bool × Nat} {a1 : Int32} : xCd 1 95 [.ref 10, .int a1] (xS I L z) (fun r τ => r = some (.int (f_X6_truthAt I L a1)) ∧ τ = xS I L z) := by
  unfold f_X6_truthAt
  refine c_X6_truthAt ?_
  skip
  try dsimp only
  repeat' split
  all_goals first | exact ⟨rfl, rfl⟩ | (exfalso; simp_all; done) | (exfalso; simp only [xin_iff, Int32.lt_iff_toInt_lt] at *; simp at *; omega) | grind
set_option maxRecDepth 100000 in
theorem c_X6_numberOf {F : xQ} {I : xI} {L : xL} {z : Bool × Bool × Nat} {a1 : Int32} {a2 : Int32} (h : (if a1 = 3 then F (some (.int a2)) (xS I L z) else (if ((a2 * 3) + a1) < 0 then F (some (.int a2)) (xS I L z) else (if ((a2 * 3) + a1) < 18 then (if xin ((a2 * 3) + a1) (18) then F (some (.int (I 13 (Int32.toNatClampNeg ((a2 * 3) + a1))))) (xS I L z) else False) else F (some (.int a2)) (xS I L z))))) : xCd 1 96 [.ref 10, .int a1, .int a2] (xS I L z) F := by
  have hd : 0 ≤ 0 := Nat.le_refl _
  exact xin_ (T := k_X6_numberOf) (rt := 1) (ls := [some (.ref 10), some (.int a1), some (.int a2), none]) rfl rfl rfl rfl (xgo b_X6_numberOf_0 h)
def f_X6_numberOf (I : xI) (L : xL) (a1 : Int32) (a2 : Int32) : Int32 := (if a1 = 3 then a2 else (if ((a2 * 3) + a1) < 0 then a2 else (if ((a2 * 3) + a1) < 18 then (if xin ((a2 * 3) + a1) (18) then I 13 (Int32.toNatClampNeg ((a2 * 3) + a1)) else 0) else a2)))
set_option maxRecDepth 100000 in
theorem s_X6_numberOf {I : xI} {L : xL} {z : Bool × Bool × Nat} {a1 : Int32} {a2 : Int32} : xCd 1 96 [.ref 10, .int a1, .int a2] (xS I L z) (fun r τ => r = some (.int (f_X6_numberOf I L a1 a2)) ∧ τ = xS I L z) := by
  unfold f_X6_numberOf
  refine c_X6_numberOf ?_
  skip
  try dsimp only
  repeat' split
  all_goals first | exact ⟨rfl, rfl⟩ | (exfalso; simp_all; done) | (exfalso; simp only [xin_iff, Int32.lt_iff_toInt_lt] at *; simp at *; omega) | grind
set_option maxRecDepth 100000 in
theorem c_X6_numberInTruth {F : xQ} {I : xI} {L : xL} {z : Bool × Bool × Nat} {a1 : Int32} {a2 : Int32} (h : F (some (.int (f_X6_numberOf I L a2 (f_X6_truthAt I L a1)))) (xS I L z)) : xCd 2 97 [.ref 10, .int a1, .int a2] (xS I L z) F := by
  have hd : 1 ≤ 1 := Nat.le_refl _
  exact xin_ (T := k_X6_numberInTruth) (rt := 1) (ls := [some (.ref 10), some (.int a1), some (.int a2)]) rfl rfl rfl rfl (xgo b_X6_numberInTruth_0 (xuse1 s_X6_truthAt (Nat.le_trans (by decide) hd) (xgo b_X6_numberInTruth_7 (xuse1 s_X6_numberOf (Nat.le_trans (by decide) hd) (xgo b_X6_numberInTruth_10 h)))))
def f_X6_numberInTruth (I : xI) (L : xL) (a1 : Int32) (a2 : Int32) : Int32 := (f_X6_numberOf I L a2 (f_X6_truthAt I L a1))
set_option maxRecDepth 100000 in
theorem s_X6_numberInTruth {I : xI} {L : xL} {z : Bool × Bool × Nat} {a1 : Int32} {a2 : Int32} : xCd 2 97 [.ref 10, .int a1, .int a2] (xS I L z) (fun r τ => r = some (.int (f_X6_numberInTruth I L a1 a2)) ∧ τ = xS I L z) := by
  unfold f_X6_numberInTruth
  refine c_X6_numberInTruth ?_
  skip
  try dsimp only
  repeat' split
  all_goals first | exact ⟨rfl, rfl⟩ | (exfalso; simp_all; done) | (exfalso; simp only [xin_iff, Int32.lt_iff_toInt_lt] at *; simp at *; omega) | grind
set_option maxRecDepth 100000 in
theorem c_X6_placeOfSign {F : xQ} {I : xI} {L : xL} {z : Bool × Bool × Nat} {a1 : Int32} (h : (if a1 < 0 then F (some (.int (-1 : Int32))) (xS I L z) else (if a1 < 24 then (if xin a1 (24) then F (some (.int ((I 16 (Int32.toNatClampNeg a1)) / 40))) (xS I L z) else False) else F (some (.int (-1 : Int32))) (xS I L z)))) : xCd 1 98 [.ref 10, .int a1] (xS I L z) F := by
  have hd : 0 ≤ 0 := Nat.le_refl _
  exact xin_ (T := k_X6_placeOfSign) (rt := 1) (ls := [some (.ref 10), some (.int a1)]) rfl rfl rfl rfl (xgo b_X6_placeOfSign_0 h)
def f_X6_placeOfSign (I : xI) (L : xL) (a1 : Int32) : Int32 := (if a1 < 0 then (-1 : Int32) else (if a1 < 24 then (if xin a1 (24) then (I 16 (Int32.toNatClampNeg a1)) / 40 else 0) else (-1 : Int32)))
set_option maxRecDepth 100000 in
theorem s_X6_placeOfSign {I : xI} {L : xL} {z : Bool × Bool × Nat} {a1 : Int32} : xCd 1 98 [.ref 10, .int a1] (xS I L z) (fun r τ => r = some (.int (f_X6_placeOfSign I L a1)) ∧ τ = xS I L z) := by
  unfold f_X6_placeOfSign
  refine c_X6_placeOfSign ?_
  skip
  try dsimp only
  repeat' split
  all_goals first | exact ⟨rfl, rfl⟩ | (exfalso; simp_all; done) | (exfalso; simp only [xin_iff, Int32.lt_iff_toInt_lt] at *; simp at *; omega) | grind
set_option maxRecDepth 100000 in
theorem c_X6_dropSigns {F : xQ} {I : xI} {L : xL} {z : Bool × Bool × Nat}  (h : F none (xS (xw (xw I 10 3 0) 10 6 1) L z)) : xCd 1 101 [.ref 10] (xS I L z) F := by
  have hd : 0 ≤ 0 := Nat.le_refl _
  exact xin_ (T := k_X6_dropSigns) (rt := 0) (ls := [some (.ref 10)]) rfl rfl rfl rfl (xgo b_X6_dropSigns_0 h)
set_option maxRecDepth 100000 in
theorem c_X6_pouredAndTurned {F : xQ} {I : xI} {L : xL} {z : Bool × Bool × Nat} {a1 : Int32} {a2 : Int32} (h : (if a1 < a2 then (if ((a1 - a2) + (I 10 0)) < 0 then F (some (.int 0)) (xS I L z) else (if ((a1 - a2) + (I 10 0)) < 6 then (if xin ((a1 - a2) + (I 10 0)) (6) then F (some (.int (I 11 (Int32.toNatClampNeg ((a1 - a2) + (I 10 0)))))) (xS I L z) else False) else F (some (.int 0)) (xS I L z))) else (if (a1 - a2) < 0 then F (some (.int 0)) (xS I L z) else (if (a1 - a2) < 6 then (if xin (a1 - a2) (6) then F (some (.int (I 11 (Int32.toNatClampNeg (a1 - a2))))) (xS I L z) else False) else F (some (.int 0)) (xS I L z))))) : xCd 1 105 [.ref 10, .int a1, .int a2] (xS I L z) F := by
  have hd : 0 ≤ 0 := Nat.le_refl _
  exact xin_ (T := k_X6_pouredAndTurned) (rt := 1) (ls := [some (.ref 10), some (.int a1), some (.int a2), none]) rfl rfl rfl rfl (xgo b_X6_pouredAndTurned_0 (xite (fun c136 h136 => (xgo b_X6_pouredAndTurned_19 h136)) (fun c136 h136 => (xgo b_X6_pouredAndTurned_19 h136)) h))
def f_X6_pouredAndTurned (I : xI) (L : xL) (a1 : Int32) (a2 : Int32) : Int32 := (if a1 < a2 then (if ((a1 - a2) + (I 10 0)) < 0 then 0 else (if ((a1 - a2) + (I 10 0)) < 6 then (if xin ((a1 - a2) + (I 10 0)) (6) then I 11 (Int32.toNatClampNeg ((a1 - a2) + (I 10 0))) else 0) else 0)) else (if (a1 - a2) < 0 then 0 else (if (a1 - a2) < 6 then (if xin (a1 - a2) (6) then I 11 (Int32.toNatClampNeg (a1 - a2)) else 0) else 0)))
set_option maxRecDepth 100000 in
theorem s_X6_pouredAndTurned {I : xI} {L : xL} {z : Bool × Bool × Nat} {a1 : Int32} {a2 : Int32} : xCd 1 105 [.ref 10, .int a1, .int a2] (xS I L z) (fun r τ => r = some (.int (f_X6_pouredAndTurned I L a1 a2)) ∧ τ = xS I L z) := by
  unfold f_X6_pouredAndTurned
  refine c_X6_pouredAndTurned ?_
  skip
  try dsimp only
  repeat' split
  all_goals first | exact ⟨rfl, rfl⟩ | (exfalso; simp_all; done) | (exfalso; simp only [xin_iff, Int32.lt_iff_toInt_lt] at *; simp at *; omega) | grind
set_option maxRecDepth 100000 in
theorem c_X6_draw {F : xQ} {I : xI} {L : xL} {z : Bool × Bool × Nat} {a1 : Int32} (h : (if 0 < a1 then (if a1 = 0 then False else F (some (.int (((Int32.toUInt32 ((xw I 10 2 (((I 10 2) * 1103515245) + 12345)) 10 2) >>> (Int32.toUInt32 16 &&& Int32.toUInt32 31)).toInt32) - ((Int32.toUInt32 ((xw I 10 2 (((I 10 2) * 1103515245) + 12345)) 10 2) >>> (Int32.toUInt32 16 &&& Int32.toUInt32 31)).toInt32) / a1 * a1))) (xS (xw I 10 2 (((I 10 2) * 1103515245) + 12345)) L z)) else F (some (.int 0)) (xS (xw I 10 2 (((I 10 2) * 1103515245) + 12345)) L z))) : xCd 1 108 [.ref 10, .int a1] (xS I L z) F := by
  have hd : 0 ≤ 0 := Nat.le_refl _
  exact xin_ (T := k_X6_draw) (rt := 1) (ls := [some (.ref 10), some (.int a1)]) rfl rfl rfl rfl (xgo b_X6_draw_0 h)
set_option maxRecDepth 100000 in
theorem c_X6_signFor {F : xQ} {I : xI} {L : xL} {z : Bool × Bool × Nat} {a0 : Int32} {a1 : Int32} {a2 : Int32} (h : F (some (.int ((((a0 * 4) + a1) * 10) + a2))) (xS I L z)) : xCd 1 109 [.int a0, .int a1, .int a2] (xS I L z) F := by
  have hd : 0 ≤ 0 := Nat.le_refl _
  exact xin_ (T := k_X6_signFor) (rt := 1) (ls := [some (.int a0), some (.int a1), some (.int a2)]) rfl rfl rfl rfl (xgo b_X6_signFor_0 h)
def f_X6_signFor (I : xI) (L : xL) (a0 : Int32) (a1 : Int32) (a2 : Int32) : Int32 := (((a0 * 4) + a1) * 10) + a2
set_option maxRecDepth 100000 in
theorem s_X6_signFor {I : xI} {L : xL} {z : Bool × Bool × Nat} {a0 : Int32} {a1 : Int32} {a2 : Int32} : xCd 1 109 [.int a0, .int a1, .int a2] (xS I L z) (fun r τ => r = some (.int (f_X6_signFor I L a0 a1 a2)) ∧ τ = xS I L z) := by
  unfold f_X6_signFor
  refine c_X6_signFor ?_
  skip
  try dsimp only
  repeat' split
  all_goals first | exact ⟨rfl, rfl⟩ | (exfalso; simp_all; done) | (exfalso; simp only [xin_iff, Int32.lt_iff_toInt_lt] at *; simp at *; omega) | grind
set_option maxRecDepth 100000 in
theorem c_X7_sortAt {F : xQ} {I : xI} {L : xL} {z : Bool × Bool × Nat} {a0 : Int32} {a1 : Int32} (h : (if a1 < 0 then F (some (.int 0)) (xS I L z) else (if a1 < 6 then (if xin a1 (6) then F (some (.int ((a0 >>> ((I 2 (Int32.toNatClampNeg a1)) &&& 31)) &&& 7))) (xS I L z) else False) else F (some (.int 0)) (xS I L z)))) : xCd 1 111 [.int a0, .int a1] (xS I L z) F := by
  have hd : 0 ≤ 0 := Nat.le_refl _
  exact xin_ (T := k_X7_sortAt) (rt := 1) (ls := [some (.int a0), some (.int a1)]) rfl rfl rfl rfl (xgo b_X7_sortAt_0 h)
def f_X7_sortAt (I : xI) (L : xL) (a0 : Int32) (a1 : Int32) : Int32 := (if a1 < 0 then 0 else (if a1 < 6 then (if xin a1 (6) then (a0 >>> ((I 2 (Int32.toNatClampNeg a1)) &&& 31)) &&& 7 else 0) else 0))
set_option maxRecDepth 100000 in
theorem s_X7_sortAt {I : xI} {L : xL} {z : Bool × Bool × Nat} {a0 : Int32} {a1 : Int32} : xCd 1 111 [.int a0, .int a1] (xS I L z) (fun r τ => r = some (.int (f_X7_sortAt I L a0 a1)) ∧ τ = xS I L z) := by
  unfold f_X7_sortAt
  refine c_X7_sortAt ?_
  skip
  try dsimp only
  repeat' split
  all_goals first | exact ⟨rfl, rfl⟩ | (exfalso; simp_all; done) | (exfalso; simp only [xin_iff, Int32.lt_iff_toInt_lt] at *; simp at *; omega) | grind
set_option maxRecDepth 100000 in
theorem c_X7_putAt {F : xQ} {I : xI} {L : xL} {z : Bool × Bool × Nat} {a0 : Int32} {a1 : Int32} (h : (if a1 < 0 then F (some (.int 0)) (xS I L z) else (if a1 < 6 then (if xin a1 (6) then F (some (.int (a0 <<< ((I 2 (Int32.toNatClampNeg a1)) &&& 31)))) (xS I L z) else False) else F (some (.int 0)) (xS I L z)))) : xCd 1 112 [.int a0, .int a1] (xS I L z) F := by
  have hd : 0 ≤ 0 := Nat.le_refl _
  exact xin_ (T := k_X7_putAt) (rt := 1) (ls := [some (.int a0), some (.int a1)]) rfl rfl rfl rfl (xgo b_X7_putAt_0 h)
def f_X7_putAt (I : xI) (L : xL) (a0 : Int32) (a1 : Int32) : Int32 := (if a1 < 0 then 0 else (if a1 < 6 then (if xin a1 (6) then a0 <<< ((I 2 (Int32.toNatClampNeg a1)) &&& 31) else 0) else 0))
set_option maxRecDepth 100000 in
theorem s_X7_putAt {I : xI} {L : xL} {z : Bool × Bool × Nat} {a0 : Int32} {a1 : Int32} : xCd 1 112 [.int a0, .int a1] (xS I L z) (fun r τ => r = some (.int (f_X7_putAt I L a0 a1)) ∧ τ = xS I L z) := by
  unfold f_X7_putAt
  refine c_X7_putAt ?_
  skip
  try dsimp only
  repeat' split
  all_goals first | exact ⟨rfl, rfl⟩ | (exfalso; simp_all; done) | (exfalso; simp only [xin_iff, Int32.lt_iff_toInt_lt] at *; simp at *; omega) | grind
set_option maxRecDepth 100000 in
theorem c_X7_worldOf {F : xQ} {I : xI} {L : xL} {z : Bool × Bool × Nat} {a1 : Int32} (h : (if a1 < 0 then F (some (.int 0)) (xS I L z) else (if a1 < (I 37 0) then (if a1 < 720 then (if xin a1 (720) then F (some (.int (I 38 (Int32.toNatClampNeg a1)))) (xS I L z) else False) else F (some (.int 0)) (xS I L z)) else F (some (.int 0)) (xS I L z)))) : xCd 1 122 [.ref 37, .int a1] (xS I L z) F := by
  have hd : 0 ≤ 0 := Nat.le_refl _
  exact xin_ (T := k_X7_worldOf) (rt := 1) (ls := [some (.ref 37), some (.int a1)]) rfl rfl rfl rfl (xgo b_X7_worldOf_0 h)
def f_X7_worldOf (I : xI) (L : xL) (a1 : Int32) : Int32 := (if a1 < 0 then 0 else (if a1 < (I 37 0) then (if a1 < 720 then (if xin a1 (720) then I 38 (Int32.toNatClampNeg a1) else 0) else 0) else 0))
set_option maxRecDepth 100000 in
theorem s_X7_worldOf {I : xI} {L : xL} {z : Bool × Bool × Nat} {a1 : Int32} : xCd 1 122 [.ref 37, .int a1] (xS I L z) (fun r τ => r = some (.int (f_X7_worldOf I L a1)) ∧ τ = xS I L z) := by
  unfold f_X7_worldOf
  refine c_X7_worldOf ?_
  skip
  try dsimp only
  repeat' split
  all_goals first | exact ⟨rfl, rfl⟩ | (exfalso; simp_all; done) | (exfalso; simp only [xin_iff, Int32.lt_iff_toInt_lt] at *; simp at *; omega) | grind
set_option maxRecDepth 100000 in
theorem c_X7_possibleOf {F : xQ} {I : xI} {L : xL} {z : Bool × Bool × Nat} {a1 : Int32} (h : (if a1 < 0 then F (some (.int 0)) (xS I L z) else (if a1 < (I 37 1) then (if a1 < 720 then (if xin a1 (720) then F (some (.int (I 39 (Int32.toNatClampNeg a1)))) (xS I L z) else False) else F (some (.int 0)) (xS I L z)) else F (some (.int 0)) (xS I L z)))) : xCd 1 123 [.ref 37, .int a1] (xS I L z) F := by
  have hd : 0 ≤ 0 := Nat.le_refl _
  exact xin_ (T := k_X7_possibleOf) (rt := 1) (ls := [some (.ref 37), some (.int a1)]) rfl rfl rfl rfl (xgo b_X7_possibleOf_0 h)
def f_X7_possibleOf (I : xI) (L : xL) (a1 : Int32) : Int32 := (if a1 < 0 then 0 else (if a1 < (I 37 1) then (if a1 < 720 then (if xin a1 (720) then I 39 (Int32.toNatClampNeg a1) else 0) else 0) else 0))
set_option maxRecDepth 100000 in
theorem s_X7_possibleOf {I : xI} {L : xL} {z : Bool × Bool × Nat} {a1 : Int32} : xCd 1 123 [.ref 37, .int a1] (xS I L z) (fun r τ => r = some (.int (f_X7_possibleOf I L a1)) ∧ τ = xS I L z) := by
  unfold f_X7_possibleOf
  refine c_X7_possibleOf ?_
  skip
  try dsimp only
  repeat' split
  all_goals first | exact ⟨rfl, rfl⟩ | (exfalso; simp_all; done) | (exfalso; simp only [xin_iff, Int32.lt_iff_toInt_lt] at *; simp at *; omega) | grind
set_option maxRecDepth 100000 in
theorem c_X7_howManyStand {F : xQ} {I : xI} {L : xL} {z : Bool × Bool × Nat} {a1 : Int32} {a2 : Int32} (h : (if ((a1 * 8) + a2) < 0 then F (some (.int 0)) (xS I L z) else (if ((a1 * 8) + a2) < 48 then (if xin ((a1 * 8) + a2) (48) then F (some (.int (I 40 (Int32.toNatClampNeg ((a1 * 8) + a2))))) (xS I L z) else False) else F (some (.int 0)) (xS I L z)))) : xCd 1 125 [.ref 37, .int a1, .int a2] (xS I L z) F := by
  have hd : 0 ≤ 0 := Nat.le_refl _
  exact xin_ (T := k_X7_howManyStand) (rt := 1) (ls := [some (.ref 37), some (.int a1), some (.int a2), none]) rfl rfl rfl rfl (xgo b_X7_howManyStand_0 h)
def f_X7_howManyStand (I : xI) (L : xL) (a1 : Int32) (a2 : Int32) : Int32 := (if ((a1 * 8) + a2) < 0 then 0 else (if ((a1 * 8) + a2) < 48 then (if xin ((a1 * 8) + a2) (48) then I 40 (Int32.toNatClampNeg ((a1 * 8) + a2)) else 0) else 0))
set_option maxRecDepth 100000 in
theorem s_X7_howManyStand {I : xI} {L : xL} {z : Bool × Bool × Nat} {a1 : Int32} {a2 : Int32} : xCd 1 125 [.ref 37, .int a1, .int a2] (xS I L z) (fun r τ => r = some (.int (f_X7_howManyStand I L a1 a2)) ∧ τ = xS I L z) := by
  unfold f_X7_howManyStand
  refine c_X7_howManyStand ?_
  skip
  try dsimp only
  repeat' split
  all_goals first | exact ⟨rfl, rfl⟩ | (exfalso; simp_all; done) | (exfalso; simp only [xin_iff, Int32.lt_iff_toInt_lt] at *; simp at *; omega) | grind
set_option maxRecDepth 100000 in
theorem c_X8_element {F : xQ} {I : xI} {L : xL} {z : Bool × Bool × Nat} {a1 : Int32} {a2 : Int32} (h : (if p_X2_hasElement I L a1 a2 then (if xin ((a1 * 40) + a2) (320) then F (some (.long (L 60 (Int32.toNatClampNeg ((a1 * 40) + a2))))) (xS I L z) else False) else F (some (.long (Int64.ofNat 0))) (xS I L z))) : xCd 4 136 [.ref 9, .int a1, .int a2] (xS I L z) F := by
  have hd : 3 ≤ 3 := Nat.le_refl _
  exact xin_ (T := k_X8_element) (rt := 3) (ls := [some (.ref 9), some (.int a1), some (.int a2)]) rfl rfl rfl rfl (xgo b_X8_element_0 (xupD (c_X2_elementOf (xite (fun c166 h166 => (xite (fun c165 h165 => (xgo b_X8_element_9 h165)) (fun c165 h165 => h165) h166)) (fun c166 h166 => (xgo b_X8_element_9 h166)) h)) (Nat.le_trans (by decide) hd)))
set_option maxRecDepth 100000 in
theorem c_X8_holds {F : xQ} {I : xI} {L : xL} {z : Bool × Bool × Nat} {a1 : Int32} (h : F (some (.int (f_X2_thingOf I L a1))) (xS I L z)) : xCd 3 137 [.ref 9, .int a1] (xS I L z) F := by
  have hd : 2 ≤ 2 := Nat.le_refl _
  exact xin_ (T := k_X8_holds) (rt := 1) (ls := [some (.ref 9), some (.int a1)]) rfl rfl rfl rfl (xgo b_X8_holds_0 (xuse1 s_X2_thingOf (Nat.le_trans (by decide) hd) (xgo b_X8_holds_8 h)))
def f_X8_holds (I : xI) (L : xL) (a1 : Int32) : Int32 := (f_X2_thingOf I L a1)
set_option maxRecDepth 100000 in
theorem s_X8_holds {I : xI} {L : xL} {z : Bool × Bool × Nat} {a1 : Int32} : xCd 3 137 [.ref 9, .int a1] (xS I L z) (fun r τ => r = some (.int (f_X8_holds I L a1)) ∧ τ = xS I L z) := by
  unfold f_X8_holds
  refine c_X8_holds ?_
  skip
  try dsimp only
  repeat' split
  all_goals first | exact ⟨rfl, rfl⟩ | (exfalso; simp_all; done) | (exfalso; simp only [xin_iff, Int32.lt_iff_toInt_lt] at *; simp at *; omega) | grind
set_option maxRecDepth 100000 in
theorem c_X8_show {F : xQ} {I : xI} {L : xL} {z : Bool × Bool × Nat} {a1 : Int32} {a2 : Int32} (h : (if p_X2_isShelf I L a1 then (if a2 = (-1 : Int32) then (if p_X2_isShelf I L a1 then (if a2 = (-1 : Int32) then (if xin a1 (8) then F (some (.int 1)) (xS (xw I 58 (Int32.toNatClampNeg a1) (-1 : Int32)) L z) else False) else (if xin a1 (8) then F (some (.int 1)) (xS (xw I 58 (Int32.toNatClampNeg a1) (10 + a2)) L z) else False)) else F (some (.int 1)) (xS I L z)) else (if p_X6_hasTeller I L a2 then (if p_X2_isShelf I L a1 then (if a2 = (-1 : Int32) then (if xin a1 (8) then F (some (.int 1)) (xS (xw I 58 (Int32.toNatClampNeg a1) (-1 : Int32)) L z) else False) else (if xin a1 (8) then F (some (.int 1)) (xS (xw I 58 (Int32.toNatClampNeg a1) (10 + a2)) L z) else False)) else F (some (.int 1)) (xS I L z)) else F (some (.int (-2 : Int32))) (xS (xrfu I (-2 : Int32)) L z))) else F (some (.int (-2 : Int32))) (xS (xrfu I (-2 : Int32)) L z))) : xCd 3 138 [.ref 9, .int a1, .int a2] (xS I L z) F := by
  have hd : 2 ≤ 2 := Nat.le_refl _
  exact xin_ (T := k_X8_show) (rt := 1) (ls := [some (.ref 9), some (.int a1), some (.int a2)]) rfl rfl rfl rfl (xgo b_X8_show_0 (xuse1 s_X2_isShelf (Nat.le_trans (by decide) hd) (xgo b_X8_show_4 (xiteB (fun c177 h177 => (xite (fun c176 h176 => (xupD (c_X2_putTeller (xite (fun c170 h170 => (xite (fun c169 h169 => (xite (fun c167 h167 => (xgo b_X8_show_39 h167)) (fun c167 h167 => h167) h169)) (fun c169 h169 => (xite (fun c168 h168 => (xgo b_X8_show_39 h168)) (fun c168 h168 => h168) h169)) h170)) (fun c170 h170 => (xgo b_X8_show_39 h170)) h176)) (Nat.le_trans (by decide) hd))) (fun c176 h176 => (xuse1 s_X6_hasTeller (Nat.le_trans (by decide) hd) (xgo b_X8_show_20 (xiteB (fun c175 h175 => (xupD (c_X2_putTeller (xite (fun c174 h174 => (xite (fun c173 h173 => (xite (fun c171 h171 => (xgo b_X8_show_39 h171)) (fun c171 h171 => h171) h173)) (fun c173 h173 => (xite (fun c172 h172 => (xgo b_X8_show_39 h172)) (fun c172 h172 => h172) h173)) h174)) (fun c174 h174 => (xgo b_X8_show_39 h174)) h175)) (Nat.le_trans (by decide) hd))) (fun c175 h175 => (xuse1 s_X8_refuse (Nat.le_trans (by decide) hd) (xgo b_X8_show_29 h175))) h176)))) h177)) (fun c177 h177 => (xuse1 s_X8_refuse (Nat.le_trans (by decide) hd) (xgo b_X8_show_29 h177))) h))))
set_option maxRecDepth 100000 in
theorem c_X8_law {F : xQ} {I : xI} {L : xL} {z : Bool × Bool × Nat} {a1 : Int32} (h : (if a1 < 0 then F (some (.int (-2 : Int32))) (xS (xrfu I (-2 : Int32)) L z) else (if 2 < a1 then F (some (.int (-2 : Int32))) (xS (xrfu I (-2 : Int32)) L z) else F (some (.int (I 10 1))) (xS (xw (xw I 10 1 a1) 10 5 1) L z)))) : xCd 2 142 [.ref 9, .int a1] (xS I L z) F := by
  have hd : 1 ≤ 1 := Nat.le_refl _
  exact xin_ (T := k_X8_law) (rt := 1) (ls := [some (.ref 9), some (.int a1), none]) rfl rfl rfl rfl (xgo b_X8_law_0 (xite (fun c185 h185 => (xuse1 s_X8_refuse (Nat.le_trans (by decide) hd) (xgo b_X8_law_15 h185))) (fun c185 h185 => (xite (fun c184 h184 => (xuse1 s_X8_refuse (Nat.le_trans (by decide) hd) (xgo b_X8_law_15 h184))) (fun c184 h184 => (xupD (c_X6_setLaw (xgo b_X8_law_32 h184)) (Nat.le_trans (by decide) hd))) h185)) h))
set_option maxRecDepth 100000 in
theorem c_X8_forget {F : xQ} {I : xI} {L : xL} {z : Bool × Bool × Nat}  (h : F (some (.int (I 10 3))) (xS (xw (xw I 10 3 0) 10 6 1) L z)) : xCd 2 147 [.ref 9] (xS I L z) F := by
  have hd : 1 ≤ 1 := Nat.le_refl _
  exact xin_ (T := k_X8_forget) (rt := 1) (ls := [some (.ref 9), none]) rfl rfl rfl rfl (xgo b_X8_forget_0 (xupD (c_X6_dropSigns (xgo b_X8_forget_15 h)) (Nat.le_trans (by decide) hd)))
set_option maxRecDepth 100000 in
theorem c_X8_feed {F : xQ} {I : xI} {L : xL} {z : Bool × Bool × Nat} {a1 : Int32} (h : (if a1 < 0 then F (some (.int (-2 : Int32))) (xS (xrfu I (-2 : Int32)) L z) else (if 255 < a1 then F (some (.int (-2 : Int32))) (xS (xrfu I (-2 : Int32)) L z) else (if (I 61 0) < 0 then F (some (.int (-6 : Int32))) (xS (xrfu I (-6 : Int32)) L z) else (if (I 61 0) < 250 then (if xin (I 61 0) (250) then F (some (.int ((xw (xw I 62 (Int32.toNatClampNeg (I 61 0)) a1) 61 0 (((xw I 62 (Int32.toNatClampNeg (I 61 0)) a1) 61 0) + 1)) 61 0))) (xS (xw (xw I 62 (Int32.toNatClampNeg (I 61 0)) a1) 61 0 (((xw I 62 (Int32.toNatClampNeg (I 61 0)) a1) 61 0) + 1)) L z) else False) else F (some (.int (-6 : Int32))) (xS (xrfu I (-6 : Int32)) L z)))))) : xCd 2 148 [.ref 9, .int a1] (xS I L z) F := by
  have hd : 1 ≤ 1 := Nat.le_refl _
  exact xin_ (T := k_X8_feed) (rt := 1) (ls := [some (.ref 9), some (.int a1)]) rfl rfl rfl rfl (xgo b_X8_feed_0 (xite (fun c194 h194 => (xuse1 s_X8_refuse (Nat.le_trans (by decide) hd) (xgo b_X8_feed_17 h194))) (fun c194 h194 => (xite (fun c193 h193 => (xuse1 s_X8_refuse (Nat.le_trans (by decide) hd) (xgo b_X8_feed_17 h193))) (fun c193 h193 => (xupD (c_X4_put (xite (fun c192 h192 => (xgo b_X8_feed_26 (xitT (by decide) (xuse1 s_X8_refuse (Nat.le_trans (by decide) hd) (xgo b_X8_feed_35 h192))))) (fun c192 h192 => (xite (fun c191 h191 => (xite (fun c190 h190 => (xgo b_X8_feed_26 (xitF (by decide) h190))) (fun c190 h190 => h190) h191)) (fun c191 h191 => (xgo b_X8_feed_26 (xitT (by decide) (xuse1 s_X8_refuse (Nat.le_trans (by decide) hd) (xgo b_X8_feed_35 h191))))) h192)) h193)) (Nat.le_trans (by decide) hd))) h194)) h))
set_option maxRecDepth 100000 in
theorem c_X8_wipe {F : xQ} {I : xI} {L : xL} {z : Bool × Bool × Nat}  (h : F (some (.int (I 61 0))) (xS (xw I 61 0 0) L z)) : xCd 1 149 [.ref 9] (xS I L z) F := by
  have hd : 0 ≤ 0 := Nat.le_refl _
  exact xin_ (T := k_X8_wipe) (rt := 1) (ls := [some (.ref 9), none]) rfl rfl rfl rfl (xgo b_X8_wipe_0 h)
set_option maxRecDepth 100000 in
theorem c_X8_stands {F : xQ} {I : xI} {L : xL} {z : Bool × Bool × Nat} {a1 : Int32} (h : (if p_X6_hasPlace I L a1 then F (some (.int (f_X6_truthAt I L a1))) (xS I L z) else F (some (.int (-2 : Int32))) (xS (xrfu I (-2 : Int32)) L z))) : xCd 2 172 [.ref 9, .int a1] (xS I L z) F := by
  have hd : 1 ≤ 1 := Nat.le_refl _
  exact xin_ (T := k_X8_stands) (rt := 1) (ls := [some (.ref 9), some (.int a1)]) rfl rfl rfl rfl (xgo b_X8_stands_0 (xuse1 s_X6_hasPlace (Nat.le_trans (by decide) hd) (xgo b_X8_stands_8 (xiteB (fun c215 h215 => (xuse1 s_X6_truthAt (Nat.le_trans (by decide) hd) (xgo b_X8_stands_26 h215))) (fun c215 h215 => (xuse1 s_X8_refuse (Nat.le_trans (by decide) hd) (xgo b_X8_stands_17 h215))) h))))
set_option maxRecDepth 100000 in
theorem c_X8_seed {F : xQ} {I : xI} {L : xL} {z : Bool × Bool × Nat} {a1 : Int32} (h : F (some (.int (I 10 2))) (xS (xw I 10 2 a1) L z)) : xCd 1 173 [.ref 9, .int a1] (xS I L z) F := by
  have hd : 0 ≤ 0 := Nat.le_refl _
  exact xin_ (T := k_X8_seed) (rt := 1) (ls := [some (.ref 9), some (.int a1), none]) rfl rfl rfl rfl (xgo b_X8_seed_0 h)
set_option maxRecDepth 100000 in
theorem c_X8_isSort {F : xQ} {I : xI} {L : xL} {z : Bool × Bool × Nat} {a0 : Int32} (h : (if a0 < 0 then F (some (.int 0)) (xS I L z) else (if a0 < 6 then F (some (.int 1)) (xS I L z) else F (some (.int 0)) (xS I L z)))) : xCd 1 180 [.int a0] (xS I L z) F := by
  have hd : 0 ≤ 0 := Nat.le_refl _
  exact xin_ (T := k_X8_isSort) (rt := 2) (ls := [some (.int a0)]) rfl rfl rfl rfl (xgo b_X8_isSort_0 h)
abbrev p_X8_isSort (I : xI) (L : xL) (a0 : Int32) : Prop := (¬ a0 < 0 ∧ a0 < 6)
set_option maxRecDepth 100000 in
theorem s_X8_isSort {I : xI} {L : xL} {z : Bool × Bool × Nat} {a0 : Int32} : xCd 1 180 [.int a0] (xS I L z) (fun r τ => r = some (.int (if p_X8_isSort I L a0 then 1 else 0)) ∧ τ = xS I L z) := by
  by_cases hp : p_X8_isSort I L a0
  · rw [if_pos hp]
    refine c_X8_isSort ?_
    try simp only [p_X8_isSort] at *
    try dsimp only
    repeat' split
    all_goals first | exact ⟨rfl, rfl⟩ | (exfalso; simp_all; done) | (exfalso; simp only [xin_iff, Int32.lt_iff_toInt_lt] at *; simp at *; omega) | grind
  · rw [if_neg hp]
    refine c_X8_isSort ?_
    try simp only [p_X8_isSort] at *
    try dsimp only
    repeat' split
    all_goals first | exact ⟨rfl, rfl⟩ | (exfalso; simp_all; done) | (exfalso; simp only [xin_iff, Int32.lt_iff_toInt_lt] at *; simp at *; omega) | grind
set_option maxRecDepth 100000 in
theorem c_X8_isNumber {F : xQ} {I : xI} {L : xL} {z : Bool × Bool × Nat} {a0 : Int32} (h : (if a0 < 0 then F (some (.int 0)) (xS I L z) else (if 9 < a0 then F (some (.int 0)) (xS I L z) else F (some (.int 1)) (xS I L z)))) : xCd 1 181 [.int a0] (xS I L z) F := by
  have hd : 0 ≤ 0 := Nat.le_refl _
  exact xin_ (T := k_X8_isNumber) (rt := 2) (ls := [some (.int a0)]) rfl rfl rfl rfl (xgo b_X8_isNumber_0 h)
abbrev p_X8_isNumber (I : xI) (L : xL) (a0 : Int32) : Prop := (¬ a0 < 0 ∧ ¬ 9 < a0)
set_option maxRecDepth 100000 in
theorem s_X8_isNumber {I : xI} {L : xL} {z : Bool × Bool × Nat} {a0 : Int32} : xCd 1 181 [.int a0] (xS I L z) (fun r τ => r = some (.int (if p_X8_isNumber I L a0 then 1 else 0)) ∧ τ = xS I L z) := by
  by_cases hp : p_X8_isNumber I L a0
  · rw [if_pos hp]
    refine c_X8_isNumber ?_
    try simp only [p_X8_isNumber] at *
    try dsimp only
    repeat' split
    all_goals first | exact ⟨rfl, rfl⟩ | (exfalso; simp_all; done) | (exfalso; simp only [xin_iff, Int32.lt_iff_toInt_lt] at *; simp at *; omega) | grind
  · rw [if_neg hp]
    refine c_X8_isNumber ?_
    try simp only [p_X8_isNumber] at *
    try dsimp only
    repeat' split
    all_goals first | exact ⟨rfl, rfl⟩ | (exfalso; simp_all; done) | (exfalso; simp only [xin_iff, Int32.lt_iff_toInt_lt] at *; simp at *; omega) | grind
set_option maxRecDepth 100000 in
theorem c_X8_isLook {F : xQ} {I : xI} {L : xL} {z : Bool × Bool × Nat} {a0 : Int32} (h : (if a0 < 0 then F (some (.int 0)) (xS I L z) else (if a0 < 3 then F (some (.int 1)) (xS I L z) else F (some (.int 0)) (xS I L z)))) : xCd 1 182 [.int a0] (xS I L z) F := by
  have hd : 0 ≤ 0 := Nat.le_refl _
  exact xin_ (T := k_X8_isLook) (rt := 2) (ls := [some (.int a0)]) rfl rfl rfl rfl (xgo b_X8_isLook_0 h)
abbrev p_X8_isLook (I : xI) (L : xL) (a0 : Int32) : Prop := (¬ a0 < 0 ∧ a0 < 3)
set_option maxRecDepth 100000 in
theorem s_X8_isLook {I : xI} {L : xL} {z : Bool × Bool × Nat} {a0 : Int32} : xCd 1 182 [.int a0] (xS I L z) (fun r τ => r = some (.int (if p_X8_isLook I L a0 then 1 else 0)) ∧ τ = xS I L z) := by
  by_cases hp : p_X8_isLook I L a0
  · rw [if_pos hp]
    refine c_X8_isLook ?_
    try simp only [p_X8_isLook] at *
    try dsimp only
    repeat' split
    all_goals first | exact ⟨rfl, rfl⟩ | (exfalso; simp_all; done) | (exfalso; simp only [xin_iff, Int32.lt_iff_toInt_lt] at *; simp at *; omega) | grind
  · rw [if_neg hp]
    refine c_X8_isLook ?_
    try simp only [p_X8_isLook] at *
    try dsimp only
    repeat' split
    all_goals first | exact ⟨rfl, rfl⟩ | (exfalso; simp_all; done) | (exfalso; simp only [xin_iff, Int32.lt_iff_toInt_lt] at *; simp at *; omega) | grind
set_option maxRecDepth 100000 in
theorem c_X8_isSignKind {F : xQ} {I : xI} {L : xL} {z : Bool × Bool × Nat} {a0 : Int32} (h : (if a0 < 0 then F (some (.int 0)) (xS I L z) else (if a0 < 4 then F (some (.int 1)) (xS I L z) else F (some (.int 0)) (xS I L z)))) : xCd 1 183 [.int a0] (xS I L z) F := by
  have hd : 0 ≤ 0 := Nat.le_refl _
  exact xin_ (T := k_X8_isSignKind) (rt := 2) (ls := [some (.int a0)]) rfl rfl rfl rfl (xgo b_X8_isSignKind_0 h)
abbrev p_X8_isSignKind (I : xI) (L : xL) (a0 : Int32) : Prop := (¬ a0 < 0 ∧ a0 < 4)
set_option maxRecDepth 100000 in
theorem s_X8_isSignKind {I : xI} {L : xL} {z : Bool × Bool × Nat} {a0 : Int32} : xCd 1 183 [.int a0] (xS I L z) (fun r τ => r = some (.int (if p_X8_isSignKind I L a0 then 1 else 0)) ∧ τ = xS I L z) := by
  by_cases hp : p_X8_isSignKind I L a0
  · rw [if_pos hp]
    refine c_X8_isSignKind ?_
    try simp only [p_X8_isSignKind] at *
    try dsimp only
    repeat' split
    all_goals first | exact ⟨rfl, rfl⟩ | (exfalso; simp_all; done) | (exfalso; simp only [xin_iff, Int32.lt_iff_toInt_lt] at *; simp at *; omega) | grind
  · rw [if_neg hp]
    refine c_X8_isSignKind ?_
    try simp only [p_X8_isSignKind] at *
    try dsimp only
    repeat' split
    all_goals first | exact ⟨rfl, rfl⟩ | (exfalso; simp_all; done) | (exfalso; simp only [xin_iff, Int32.lt_iff_toInt_lt] at *; simp at *; omega) | grind
set_option maxRecDepth 100000 in
theorem c_X8_isEither {F : xQ} {I : xI} {L : xL} {z : Bool × Bool × Nat} {a0 : Int32} (h : (if a0 = 0 then F (some (.int 1)) (xS I L z) else (if a0 = 1 then F (some (.int 1)) (xS I L z) else F (some (.int 0)) (xS I L z)))) : xCd 1 184 [.int a0] (xS I L z) F := by
  have hd : 0 ≤ 0 := Nat.le_refl _
  exact xin_ (T := k_X8_isEither) (rt := 2) (ls := [some (.int a0)]) rfl rfl rfl rfl (xgo b_X8_isEither_0 h)
abbrev p_X8_isEither (I : xI) (L : xL) (a0 : Int32) : Prop := (a0 = 0 ∨ a0 = 1)
set_option maxRecDepth 100000 in
theorem s_X8_isEither {I : xI} {L : xL} {z : Bool × Bool × Nat} {a0 : Int32} : xCd 1 184 [.int a0] (xS I L z) (fun r τ => r = some (.int (if p_X8_isEither I L a0 then 1 else 0)) ∧ τ = xS I L z) := by
  by_cases hp : p_X8_isEither I L a0
  · rw [if_pos hp]
    refine c_X8_isEither ?_
    try simp only [p_X8_isEither] at *
    try dsimp only
    repeat' split
    all_goals first | exact ⟨rfl, rfl⟩ | (exfalso; simp_all; done) | (exfalso; simp only [xin_iff, Int32.lt_iff_toInt_lt] at *; simp at *; omega) | grind
  · rw [if_neg hp]
    refine c_X8_isEither ?_
    try simp only [p_X8_isEither] at *
    try dsimp only
    repeat' split
    all_goals first | exact ⟨rfl, rfl⟩ | (exfalso; simp_all; done) | (exfalso; simp only [xin_iff, Int32.lt_iff_toInt_lt] at *; simp at *; omega) | grind
set_option maxRecDepth 100000 in
theorem c_X8_canBeSeen {F : xQ} {I : xI} {L : xL} {z : Bool × Bool × Nat} {a0 : Int32} {a1 : Int32} (h : (if a0 = 3 then F (some (.int (if p_X8_isSort I L a1 then 1 else 0))) (xS I L z) else (if p_X8_isLook I L a0 then (if p_X8_isNumber I L a1 then F (some (.int 1)) (xS I L z) else F (some (.int 0)) (xS I L z)) else F (some (.int 0)) (xS I L z)))) : xCd 2 185 [.int a0, .int a1] (xS I L z) F := by
  have hd : 1 ≤ 1 := Nat.le_refl _
  exact xin_ (T := k_X8_canBeSeen) (rt := 2) (ls := [some (.int a0), some (.int a1)]) rfl rfl rfl rfl (xgo b_X8_canBeSeen_0 (xite (fun c240 h240 => (xuse1 s_X8_isSort (Nat.le_trans (by decide) hd) (xgo b_X8_canBeSeen_9 (xbifT xbool_b h240)))) (fun c240 h240 => (xuse1 s_X8_isLook (Nat.le_trans (by decide) hd) (xgo b_X8_canBeSeen_16 (xiteB (fun c239 h239 => (xuse1 s_X8_isNumber (Nat.le_trans (by decide) hd) (xgo b_X8_canBeSeen_23 (xiteB (fun c238 h238 => h238) (fun c238 h238 => h238) h239)))) (fun c239 h239 => h239) h240)))) h))
abbrev p_X8_canBeSeen (I : xI) (L : xL) (a0 : Int32) (a1 : Int32) : Prop := ((a0 = 3 ∧ (p_X8_isSort I L a1)) ∨ (¬ a0 = 3 ∧ (p_X8_isLook I L a0 ∧ p_X8_isNumber I L a1)))
set_option maxRecDepth 100000 in
theorem s_X8_canBeSeen {I : xI} {L : xL} {z : Bool × Bool × Nat} {a0 : Int32} {a1 : Int32} : xCd 2 185 [.int a0, .int a1] (xS I L z) (fun r τ => r = some (.int (if p_X8_canBeSeen I L a0 a1 then 1 else 0)) ∧ τ = xS I L z) := by
  by_cases hp : p_X8_canBeSeen I L a0 a1
  · rw [if_pos hp]
    refine c_X8_canBeSeen ?_
    try simp only [p_X8_canBeSeen, p_X8_isLook, p_X8_isNumber, p_X8_isSort] at *
    try dsimp only
    repeat' split
    all_goals first | exact ⟨rfl, rfl⟩ | (exfalso; simp_all; done) | (exfalso; simp only [xin_iff, Int32.lt_iff_toInt_lt] at *; simp at *; omega) | grind
  · rw [if_neg hp]
    refine c_X8_canBeSeen ?_
    try simp only [p_X8_canBeSeen, p_X8_isLook, p_X8_isNumber, p_X8_isSort] at *
    try dsimp only
    repeat' split
    all_goals first | exact ⟨rfl, rfl⟩ | (exfalso; simp_all; done) | (exfalso; simp only [xin_iff, Int32.lt_iff_toInt_lt] at *; simp at *; omega) | grind
set_option maxRecDepth 100000 in
theorem c_X9_refuse {F : xQ} {I : xI} {L : xL} {z : Bool × Bool × Nat} {a1 : Int32} (h : (if xin (-a1) (8) then (if xin (-a1) (8) then F (some (.int a1)) (xS (xw I 82 (Int32.toNatClampNeg (-a1)) ((I 82 (Int32.toNatClampNeg (-a1))) + 1)) L z) else False) else False)) : xCd 1 187 [.ref 66, .int a1] (xS I L z) F := by
  have hd : 0 ≤ 0 := Nat.le_refl _
  exact xin_ (T := k_X9_refuse) (rt := 1) (ls := [some (.ref 66), some (.int a1)]) rfl rfl rfl rfl (xgo b_X9_refuse_0 h)
set_option maxRecDepth 100000 in
theorem c_X9_in {F : xQ} {I : xI} {L : xL} {z : Bool × Bool × Nat} {a0 : Int64} {a2 : Int64} {a4 : Int64} (h : (if (if a0 < a2 then -1 else if a0 = a2 then 0 else 1 : Int32) < 0 then F (some (.int 0)) (xS I L z) else (if 0 < (if a0 < a4 then -1 else if a0 = a4 then 0 else 1 : Int32) then F (some (.int 0)) (xS I L z) else F (some (.int 1)) (xS I L z)))) : xCd 1 188 [.long a0, .long a2, .long a4] (xS I L z) F := by
  have hd : 0 ≤ 0 := Nat.le_refl _
  exact xin_ (T := k_X9_in) (rt := 2) (ls := [some (.long a0), none, some (.long a2), none, some (.long a4), none]) rfl rfl rfl rfl (xgo b_X9_in_0 h)
abbrev p_X9_in (I : xI) (L : xL) (a0 : Int64) (a2 : Int64) (a4 : Int64) : Prop := (¬ (if a0 < a2 then -1 else if a0 = a2 then 0 else 1 : Int32) < 0 ∧ ¬ 0 < (if a0 < a4 then -1 else if a0 = a4 then 0 else 1 : Int32))
set_option maxRecDepth 100000 in
theorem s_X9_in {I : xI} {L : xL} {z : Bool × Bool × Nat} {a0 : Int64} {a2 : Int64} {a4 : Int64} : xCd 1 188 [.long a0, .long a2, .long a4] (xS I L z) (fun r τ => r = some (.int (if p_X9_in I L a0 a2 a4 then 1 else 0)) ∧ τ = xS I L z) := by
  by_cases hp : p_X9_in I L a0 a2 a4
  · rw [if_pos hp]
    refine c_X9_in ?_
    try simp only [p_X9_in] at *
    try dsimp only
    repeat' split
    all_goals first | exact ⟨rfl, rfl⟩ | (exfalso; simp_all; done) | (exfalso; simp only [xin_iff, Int32.lt_iff_toInt_lt] at *; simp at *; omega) | grind
  · rw [if_neg hp]
    refine c_X9_in ?_
    try simp only [p_X9_in] at *
    try dsimp only
    repeat' split
    all_goals first | exact ⟨rfl, rfl⟩ | (exfalso; simp_all; done) | (exfalso; simp only [xin_iff, Int32.lt_iff_toInt_lt] at *; simp at *; omega) | grind
set_option maxRecDepth 100000 in
theorem c_X9_isPlace {F : xQ} {I : xI} {L : xL} {z : Bool × Bool × Nat} {a1 : Int64} (h : F (some (.int (if p_X9_in I L a1 (Int64.ofNat 0) (Int32.toInt64 ((I 66 9) - 1)) then 1 else 0))) (xS I L z)) : xCd 2 189 [.ref 66, .long a1] (xS I L z) F := by
  have hd : 1 ≤ 1 := Nat.le_refl _
  exact xin_ (T := k_X9_isPlace) (rt := 2) (ls := [some (.ref 66), some (.long a1), none]) rfl rfl rfl rfl (xgo b_X9_isPlace_0 (xuse1 s_X9_in (Nat.le_trans (by decide) hd) (xgo b_X9_isPlace_12 (xbifT xbool_b h))))
abbrev p_X9_isPlace (I : xI) (L : xL) (a1 : Int64) : Prop := (p_X9_in I L a1 (Int64.ofNat 0) (Int32.toInt64 ((I 66 9) - 1)))
set_option maxRecDepth 100000 in
theorem s_X9_isPlace {I : xI} {L : xL} {z : Bool × Bool × Nat} {a1 : Int64} : xCd 2 189 [.ref 66, .long a1] (xS I L z) (fun r τ => r = some (.int (if p_X9_isPlace I L a1 then 1 else 0)) ∧ τ = xS I L z) := by
  by_cases hp : p_X9_isPlace I L a1
  · rw [if_pos hp]
    refine c_X9_isPlace ?_
    try simp only [p_X9_isPlace, p_X9_in] at *
    try dsimp only
    repeat' split
    all_goals first | exact ⟨rfl, rfl⟩ | (exfalso; simp_all; done) | (exfalso; simp only [xin_iff, Int32.lt_iff_toInt_lt] at *; simp at *; omega) | grind
  · rw [if_neg hp]
    refine c_X9_isPlace ?_
    try simp only [p_X9_isPlace, p_X9_in] at *
    try dsimp only
    repeat' split
    all_goals first | exact ⟨rfl, rfl⟩ | (exfalso; simp_all; done) | (exfalso; simp only [xin_iff, Int32.lt_iff_toInt_lt] at *; simp at *; omega) | grind
set_option maxRecDepth 100000 in
theorem c_X9_isTeller {F : xQ} {I : xI} {L : xL} {z : Bool × Bool × Nat} {a1 : Int32} (h : F (some (.int (if p_X9_in I L (Int32.toInt64 a1) (Int64.ofNat 0) (Int32.toInt64 ((I 66 17) - 1)) then 1 else 0))) (xS I L z)) : xCd 2 190 [.ref 66, .int a1] (xS I L z) F := by
  have hd : 1 ≤ 1 := Nat.le_refl _
  exact xin_ (T := k_X9_isTeller) (rt := 2) (ls := [some (.ref 66), some (.int a1)]) rfl rfl rfl rfl (xgo b_X9_isTeller_0 (xuse1 s_X9_in (Nat.le_trans (by decide) hd) (xgo b_X9_isTeller_13 (xbifT xbool_b h))))
abbrev p_X9_isTeller (I : xI) (L : xL) (a1 : Int32) : Prop := (p_X9_in I L (Int32.toInt64 a1) (Int64.ofNat 0) (Int32.toInt64 ((I 66 17) - 1)))
set_option maxRecDepth 100000 in
theorem s_X9_isTeller {I : xI} {L : xL} {z : Bool × Bool × Nat} {a1 : Int32} : xCd 2 190 [.ref 66, .int a1] (xS I L z) (fun r τ => r = some (.int (if p_X9_isTeller I L a1 then 1 else 0)) ∧ τ = xS I L z) := by
  by_cases hp : p_X9_isTeller I L a1
  · rw [if_pos hp]
    refine c_X9_isTeller ?_
    try simp only [p_X9_isTeller, p_X9_in] at *
    try dsimp only
    repeat' split
    all_goals first | exact ⟨rfl, rfl⟩ | (exfalso; simp_all; done) | (exfalso; simp only [xin_iff, Int32.lt_iff_toInt_lt] at *; simp at *; omega) | grind
  · rw [if_neg hp]
    refine c_X9_isTeller ?_
    try simp only [p_X9_isTeller, p_X9_in] at *
    try dsimp only
    repeat' split
    all_goals first | exact ⟨rfl, rfl⟩ | (exfalso; simp_all; done) | (exfalso; simp only [xin_iff, Int32.lt_iff_toInt_lt] at *; simp at *; omega) | grind
set_option maxRecDepth 100000 in
theorem c_X9_has {F : xQ} {I : xI} {L : xL} {z : Bool × Bool × Nat} {a0 : Int32} {a1 : Int32} (h : (if ((a0 >>> (a1 &&& 31)) &&& 1) = 0 then F (some (.int 0)) (xS I L z) else F (some (.int 1)) (xS I L z))) : xCd 1 191 [.int a0, .int a1] (xS I L z) F := by
  have hd : 0 ≤ 0 := Nat.le_refl _
  exact xin_ (T := k_X9_has) (rt := 2) (ls := [some (.int a0), some (.int a1)]) rfl rfl rfl rfl (xgo b_X9_has_0 h)
abbrev p_X9_has (I : xI) (L : xL) (a0 : Int32) (a1 : Int32) : Prop := ¬ ((a0 >>> (a1 &&& 31)) &&& 1) = 0
set_option maxRecDepth 100000 in
theorem s_X9_has {I : xI} {L : xL} {z : Bool × Bool × Nat} {a0 : Int32} {a1 : Int32} : xCd 1 191 [.int a0, .int a1] (xS I L z) (fun r τ => r = some (.int (if p_X9_has I L a0 a1 then 1 else 0)) ∧ τ = xS I L z) := by
  by_cases hp : p_X9_has I L a0 a1
  · rw [if_pos hp]
    refine c_X9_has ?_
    try simp only [p_X9_has] at *
    try dsimp only
    repeat' split
    all_goals first | exact ⟨rfl, rfl⟩ | (exfalso; simp_all; done) | (exfalso; simp only [xin_iff, Int32.lt_iff_toInt_lt] at *; simp at *; omega) | grind
  · rw [if_neg hp]
    refine c_X9_has ?_
    try simp only [p_X9_has] at *
    try dsimp only
    repeat' split
    all_goals first | exact ⟨rfl, rfl⟩ | (exfalso; simp_all; done) | (exfalso; simp only [xin_iff, Int32.lt_iff_toInt_lt] at *; simp at *; omega) | grind
set_option maxRecDepth 100000 in
theorem c_X9_fit {F : xQ} {I : xI} {L : xL} {z : Bool × Bool × Nat} {a0 : Int32} {a1 : Int64} (h : (if a0 = 0 then F (some (.long (Int32.toInt64 ((Int32.toInt8 (Int64.toInt32 a1)).toInt32)))) (xS I L z) else (if a0 = 1 then F (some (.long (Int32.toInt64 ((Int32.toInt16 (Int64.toInt32 a1)).toInt32)))) (xS I L z) else (if a0 = 2 then F (some (.long (Int32.toInt64 (Int64.toInt32 a1)))) (xS I L z) else (if a0 = 3 then F (some (.long a1)) (xS I L z) else (if (if a1 < (Int64.ofNat 0) then -1 else if a1 = (Int64.ofNat 0) then 0 else 1 : Int32) = 0 then F (some (.long (Int64.ofNat 0))) (xS I L z) else F (some (.long (Int64.ofNat 1))) (xS I L z))))))) : xCd 1 194 [.int a0, .long a1] (xS I L z) F := by
  have hd : 0 ≤ 0 := Nat.le_refl _
  exact xin_ (T := k_X9_fit) (rt := 3) (ls := [some (.int a0), some (.long a1), none]) rfl rfl rfl rfl (xgo b_X9_fit_0 h)
def f_X9_fit (I : xI) (L : xL) (a0 : Int32) (a1 : Int64) : Int64 := (if a0 = 0 then Int32.toInt64 ((Int32.toInt8 (Int64.toInt32 a1)).toInt32) else (if a0 = 1 then Int32.toInt64 ((Int32.toInt16 (Int64.toInt32 a1)).toInt32) else (if a0 = 2 then Int32.toInt64 (Int64.toInt32 a1) else (if a0 = 3 then a1 else (if (if a1 < (Int64.ofNat 0) then -1 else if a1 = (Int64.ofNat 0) then 0 else 1 : Int32) = 0 then Int64.ofNat 0 else Int64.ofNat 1)))))
set_option maxRecDepth 100000 in
theorem s_X9_fit {I : xI} {L : xL} {z : Bool × Bool × Nat} {a0 : Int32} {a1 : Int64} : xCd 1 194 [.int a0, .long a1] (xS I L z) (fun r τ => r = some (.long (f_X9_fit I L a0 a1)) ∧ τ = xS I L z) := by
  unfold f_X9_fit
  refine c_X9_fit ?_
  skip
  try dsimp only
  repeat' split
  all_goals first | exact ⟨rfl, rfl⟩ | (exfalso; simp_all; done) | (exfalso; simp only [xin_iff, Int32.lt_iff_toInt_lt] at *; simp at *; omega) | grind
set_option maxRecDepth 100000 in
theorem c_X9_noRow {F : xQ} {I : xI} {L : xL} {z : Bool × Bool × Nat} {a1 : Int32} (h : (if p_X9_in I L (Int32.toInt64 a1) (Int64.ofNat 0) (Int64.ofNat 7) then (if xin a1 (8) then (if (I 67 (Int32.toNatClampNeg a1)) = 2 then F (some (.int (-3 : Int32))) (xS (xw I 82 (Int32.toNatClampNeg (-(-3 : Int32))) ((I 82 (Int32.toNatClampNeg (-(-3 : Int32)))) + 1)) L z) else (if xin a1 (8) then (if (I 67 (Int32.toNatClampNeg a1)) = 0 then F (some (.int (-4 : Int32))) (xS (xw I 82 (Int32.toNatClampNeg (-(-4 : Int32))) ((I 82 (Int32.toNatClampNeg (-(-4 : Int32)))) + 1)) L z) else F (some (.int 0)) (xS I L z)) else False)) else False) else F (some (.int (-2 : Int32))) (xS (xw I 82 (Int32.toNatClampNeg (-(-2 : Int32))) ((I 82 (Int32.toNatClampNeg (-(-2 : Int32)))) + 1)) L z))) : xCd 2 195 [.ref 66, .int a1] (xS I L z) F := by
  have hd : 1 ≤ 1 := Nat.le_refl _
  exact xin_ (T := k_X9_noRow) (rt := 1) (ls := [some (.ref 66), some (.int a1)]) rfl rfl rfl rfl (xgo b_X9_noRow_0 (xuse1 s_X9_in (Nat.le_trans (by decide) hd) (xgo b_X9_noRow_9 (xiteB (fun c255 h255 => (xite (fun c254 h254 => (xite (fun c253 h253 => (xupD (c_X9_refuse (xitT (by decide) (xitT (by decide) (xgo b_X9_noRow_35 h253)))) (Nat.le_trans (by decide) hd))) (fun c253 h253 => (xite (fun c252 h252 => (xite (fun c251 h251 => (xupD (c_X9_refuse (xitT (by decide) (xitT (by decide) (xgo b_X9_noRow_51 h251)))) (Nat.le_trans (by decide) hd))) (fun c251 h251 => h251) h252)) (fun c252 h252 => h252) h253)) h254)) (fun c254 h254 => h254) h255)) (fun c255 h255 => (xupD (c_X9_refuse (xitT (by decide) (xitT (by decide) (xgo b_X9_noRow_18 h255)))) (Nat.le_trans (by decide) hd))) h))))
set_option maxRecDepth 100000 in
theorem c_X9_set {F : xQ} {I : xI} {L : xL} {z : Bool × Bool × Nat} {a1 : Int32} {a2 : Int32} {a3 : Int64} (h : (if p_X9_in I L (Int32.toInt64 a1) (Int64.ofNat 0) (Int64.ofNat 7) then (if xin a1 (8) then (if (I 67 (Int32.toNatClampNeg a1)) = 2 then F (some (.int (-3 : Int32))) (xS (xw I 82 (Int32.toNatClampNeg (-(-3 : Int32))) ((I 82 (Int32.toNatClampNeg (-(-3 : Int32)))) + 1)) L z) else (if xin a1 (8) then (if (I 67 (Int32.toNatClampNeg a1)) = 0 then F (some (.int (-4 : Int32))) (xS (xw I 82 (Int32.toNatClampNeg (-(-4 : Int32))) ((I 82 (Int32.toNatClampNeg (-(-4 : Int32)))) + 1)) L z) else (if xin a1 (8) then (if p_X9_in I L (Int32.toInt64 a2) (Int64.ofNat 0) (Int32.toInt64 ((I 69 (Int32.toNatClampNeg a1)) - 1)) then (if xin a1 (8) then (if xin a1 (8) then (bif xis (xS I L z) (70 + 1 + Int32.toNatClampNeg a1) 21 && Nat.blt 8 (70 + 1 + Int32.toNatClampNeg a1) then (if xin a2 (xlen z.2.2 ((70 + 1 + Int32.toNatClampNeg a1))) then F (some (.int 1)) (xS I (xwl L (70 + 1 + Int32.toNatClampNeg a1) (Int32.toNatClampNeg a2) (f_X9_fit I L (I 68 (Int32.toNatClampNeg a1)) a3)) z) else False) else False) else False) else False) else F (some (.int (-2 : Int32))) (xS (xw I 82 (Int32.toNatClampNeg (-(-2 : Int32))) ((I 82 (Int32.toNatClampNeg (-(-2 : Int32)))) + 1)) L z)) else False)) else False)) else False) else F (some (.int (-2 : Int32))) (xS (xw I 82 (Int32.toNatClampNeg (-(-2 : Int32))) ((I 82 (Int32.toNatClampNeg (-(-2 : Int32)))) + 1)) L z))) : xCd 3 196 [.ref 66, .int a1, .int a2, .long a3] (xS I L z) F := by
  have hd : 2 ≤ 2 := Nat.le_refl _
  exact xin_ (T := k_X9_set) (rt := 1) (ls := [some (.ref 66), some (.int a1), some (.int a2), some (.long a3), none, none]) rfl rfl rfl rfl (xgo b_X9_set_0 (xupD (c_X9_noRow (xite (fun c265 h265 => (xite (fun c264 h264 => (xite (fun c263 h263 => (xgo b_X9_set_5 (xitF (by decide) h263))) (fun c263 h263 => (xite (fun c262 h262 => (xite (fun c261 h261 => (xgo b_X9_set_5 (xitF (by decide) h261))) (fun c261 h261 => (xgo b_X9_set_5 (xitT (by decide) (xite (fun c260 h260 => (xuse1 s_X9_in (Nat.le_trans (by decide) hd) (xgo b_X9_set_30 (xiteB (fun c259 h259 => (xite (fun c258 h258 => (xite (fun c257 h257 => (xuse1 s_X9_fit (Nat.le_trans (by decide) hd) (xgo b_X9_set_57 h257))) (fun c257 h257 => h257) h258)) (fun c258 h258 => h258) h259)) (fun c259 h259 => (xupD (c_X9_refuse (xitT (by decide) (xitT (by decide) (xgo b_X9_set_39 h259)))) (Nat.le_trans (by decide) hd))) h260)))) (fun c260 h260 => h260) h261)))) h262)) (fun c262 h262 => h262) h263)) h264)) (fun c264 h264 => h264) h265)) (fun c265 h265 => (xgo b_X9_set_5 (xitF (by decide) h265))) h)) (Nat.le_trans (by decide) hd)))
set_option maxRecDepth 100000 in
theorem c_X9_element {F : xQ} {I : xI} {L : xL} {z : Bool × Bool × Nat} {a1 : Int32} {a2 : Int32} (h : (if p_X9_in I L (Int32.toInt64 a1) (Int64.ofNat 0) (Int64.ofNat 7) then (if xin a1 (8) then (if (I 67 (Int32.toNatClampNeg a1)) = 1 then (if xin a1 (8) then (if p_X9_in I L (Int32.toInt64 a2) (Int64.ofNat 0) (Int32.toInt64 ((I 69 (Int32.toNatClampNeg a1)) - 1)) then (if xin a1 (8) then (bif xis (xS I L z) (70 + 1 + Int32.toNatClampNeg a1) 21 then (if xin a2 (xlen z.2.2 (70 + 1 + Int32.toNatClampNeg a1)) then F (some (.long (L (70 + 1 + Int32.toNatClampNeg a1) (Int32.toNatClampNeg a2)))) (xS I L z) else False) else False) else False) else F (some (.long (Int64.ofNat 0))) (xS I L z)) else False) else F (some (.long (Int64.ofNat 0))) (xS I L z)) else False) else F (some (.long (Int64.ofNat 0))) (xS I L z))) : xCd 2 198 [.ref 66, .int a1, .int a2] (xS I L z) F := by
  have hd : 1 ≤ 1 := Nat.le_refl _
  exact xin_ (T := k_X9_element) (rt := 3) (ls := [some (.ref 66), some (.int a1), some (.int a2)]) rfl rfl rfl rfl (xgo b_X9_element_0 (xuse1 s_X9_in (Nat.le_trans (by decide) hd) (xgo b_X9_element_9 (xiteB (fun c272 h272 => (xite (fun c271 h271 => (xite (fun c270 h270 => (xite (fun c269 h269 => (xuse1 s_X9_in (Nat.le_trans (by decide) hd) (xgo b_X9_element_37 (xiteB (fun c268 h268 => h268) (fun c268 h268 => h268) h269)))) (fun c269 h269 => h269) h270)) (fun c270 h270 => h270) h271)) (fun c271 h271 => h271) h272)) (fun c272 h272 => h272) h))))
set_option maxRecDepth 100000 in
theorem c_X9_holds {F : xQ} {I : xI} {L : xL} {z : Bool × Bool × Nat} {a1 : Int32} (h : (if p_X9_in I L (Int32.toInt64 a1) (Int64.ofNat 0) (Int64.ofNat 7) then (if xin a1 (8) then (if (I 67 (Int32.toNatClampNeg a1)) = 0 then F (some (.int (-1 : Int32))) (xS I L z) else (if xin a1 (8) then (if (I 67 (Int32.toNatClampNeg a1)) = 1 then (if xin a1 (8) then F (some (.int (I 68 (Int32.toNatClampNeg a1)))) (xS I L z) else False) else (if xin a1 (8) then F (some (.int (10 + (I 80 (Int32.toNatClampNeg a1))))) (xS I L z) else False)) else False)) else False) else F (some (.int (-1 : Int32))) (xS I L z))) : xCd 2 199 [.ref 66, .int a1] (xS I L z) F := by
  have hd : 1 ≤ 1 := Nat.le_refl _
  exact xin_ (T := k_X9_holds) (rt := 1) (ls := [some (.ref 66), some (.int a1)]) rfl rfl rfl rfl (xgo b_X9_holds_0 (xuse1 s_X9_in (Nat.le_trans (by decide) hd) (xgo b_X9_holds_9 (xiteB (fun c279 h279 => h279) (fun c279 h279 => h279) h))))
set_option maxRecDepth 100000 in
theorem c_X9_show {F : xQ} {I : xI} {L : xL} {z : Bool × Bool × Nat} {a1 : Int32} {a2 : Int32} (h : (if p_X9_in I L (Int32.toInt64 a1) (Int64.ofNat 0) (Int64.ofNat 7) then (if a2 = (-1 : Int32) then (if a2 = (-1 : Int32) then (if xin a1 (8) then (if xin a1 (8) then F (some (.int 1)) (xS (xw (xw I 67 (Int32.toNatClampNeg a1) 0) 80 (Int32.toNatClampNeg a1) a2) L z) else False) else False) else (if xin a1 (8) then (if xin a1 (8) then F (some (.int 1)) (xS (xw (xw I 67 (Int32.toNatClampNeg a1) 2) 80 (Int32.toNatClampNeg a1) a2) L z) else False) else False)) else (if p_X9_isTeller I L a2 then (if a2 = (-1 : Int32) then (if xin a1 (8) then (if xin a1 (8) then F (some (.int 1)) (xS (xw (xw I 67 (Int32.toNatClampNeg a1) 0) 80 (Int32.toNatClampNeg a1) a2) L z) else False) else False) else (if xin a1 (8) then (if xin a1 (8) then F (some (.int 1)) (xS (xw (xw I 67 (Int32.toNatClampNeg a1) 2) 80 (Int32.toNatClampNeg a1) a2) L z) else False) else False)) else F (some (.int (-2 : Int32))) (xS (xw I 82 (Int32.toNatClampNeg (-(-2 : Int32))) ((I 82 (Int32.toNatClampNeg (-(-2 : Int32)))) + 1)) L z))) else F (some (.int (-2 : Int32))) (xS (xw I 82 (Int32.toNatClampNeg (-(-2 : Int32))) ((I 82 (Int32.toNatClampNeg (-(-2 : Int32)))) + 1)) L z))) : xCd 3 200 [.ref 66, .int a1, .int a2] (xS I L z) F := by
  have hd : 2 ≤ 2 := Nat.le_refl _
  exact xin_ (T := k_X9_show) (rt := 1) (ls := [some (.ref 66), some (.int a1), some (.int a2)]) rfl rfl rfl rfl (xgo b_X9_show_0 (xuse1 s_X9_in (Nat.le_trans (by decide) hd) (xgo b_X9_show_9 (xiteB (fun c292 h292 => (xite (fun c291 h291 => (xgo b_X9_show_32 h291)) (fun c291 h291 => (xuse1 s_X9_isTeller (Nat.le_trans (by decide) hd) (xgo b_X9_show_22 (xiteB (fun c290 h290 => (xgo b_X9_show_32 h290)) (fun c290 h290 => (xupD (c_X9_refuse (xitT (by decide) (xitT (by decide) (xgo b_X9_show_31 h290)))) (Nat.le_trans (by decide) hd))) h291)))) h292)) (fun c292 h292 => (xupD (c_X9_refuse (xitT (by decide) (xitT (by decide) (xgo b_X9_show_31 h292)))) (Nat.le_trans (by decide) hd))) h))))
set_option maxRecDepth 100000 in
theorem c_X9_isUnder {F : xQ} {I : xI} {L : xL} {z : Bool × Bool × Nat} {a0 : Int32} {a1 : Int32} (h : (if a1 = 0 then F (some (.int 1)) (xS I L z) else (if a0 = a1 then F (some (.int 1)) (xS I L z) else (if a1 = 2 then (if a0 = 3 then F (some (.int 1)) (xS I L z) else (if a0 = 5 then F (some (.int 1)) (xS I L z) else (if a0 = 4 then F (some (.int 1)) (xS I L z) else F (some (.int 0)) (xS I L z)))) else (if a1 = 3 then (if a0 = 4 then F (some (.int 1)) (xS I L z) else F (some (.int 0)) (xS I L z)) else F (some (.int 0)) (xS I L z)))))) : xCd 1 201 [.int a0, .int a1] (xS I L z) F := by
  have hd : 0 ≤ 0 := Nat.le_refl _
  exact xin_ (T := k_X9_isUnder) (rt := 2) (ls := [some (.int a0), some (.int a1)]) rfl rfl rfl rfl (xgo b_X9_isUnder_0 h)
abbrev p_X9_isUnder (I : xI) (L : xL) (a0 : Int32) (a1 : Int32) : Prop := (a1 = 0 ∨ (a0 = a1 ∨ ((a1 = 2 ∧ (a0 = 3 ∨ (a0 = 5 ∨ a0 = 4))) ∨ (¬ a1 = 2 ∧ (a1 = 3 ∧ a0 = 4)))))
set_option maxRecDepth 100000 in
theorem s_X9_isUnder {I : xI} {L : xL} {z : Bool × Bool × Nat} {a0 : Int32} {a1 : Int32} : xCd 1 201 [.int a0, .int a1] (xS I L z) (fun r τ => r = some (.int (if p_X9_isUnder I L a0 a1 then 1 else 0)) ∧ τ = xS I L z) := by
  by_cases hp : p_X9_isUnder I L a0 a1
  · rw [if_pos hp]
    refine c_X9_isUnder ?_
    try simp only [p_X9_isUnder] at *
    try dsimp only
    repeat' split
    all_goals first | exact ⟨rfl, rfl⟩ | (exfalso; simp_all; done) | (exfalso; simp only [xin_iff, Int32.lt_iff_toInt_lt] at *; simp at *; omega) | grind
  · rw [if_neg hp]
    refine c_X9_isUnder ?_
    try simp only [p_X9_isUnder] at *
    try dsimp only
    repeat' split
    all_goals first | exact ⟨rfl, rfl⟩ | (exfalso; simp_all; done) | (exfalso; simp only [xin_iff, Int32.lt_iff_toInt_lt] at *; simp at *; omega) | grind
set_option maxRecDepth 100000 in
theorem c_X9_noCups {F : xQ} {I : xI} {L : xL} {z : Bool × Bool × Nat} {a1 : Int32} (h : (if p_X9_in I L (Int32.toInt64 a1) (Int64.ofNat 0) (Int64.ofNat 7) then (if xin a1 (8) then (if (I 67 (Int32.toNatClampNeg a1)) = 2 then F (some (.int (-3 : Int32))) (xS (xw I 82 (Int32.toNatClampNeg (-(-3 : Int32))) ((I 82 (Int32.toNatClampNeg (-(-3 : Int32)))) + 1)) L z) else (if xin a1 (8) then (if (I 67 (Int32.toNatClampNeg a1)) = 0 then F (some (.int (-4 : Int32))) (xS (xw I 82 (Int32.toNatClampNeg (-(-4 : Int32))) ((I 82 (Int32.toNatClampNeg (-(-4 : Int32)))) + 1)) L z) else (if xin a1 (8) then (if (I 69 (Int32.toNatClampNeg a1)) < (I 66 9) then F (some (.int (-2 : Int32))) (xS (xw I 82 (Int32.toNatClampNeg (-(-2 : Int32))) ((I 82 (Int32.toNatClampNeg (-(-2 : Int32)))) + 1)) L z) else F (some (.int 0)) (xS I L z)) else False)) else False)) else False) else F (some (.int (-2 : Int32))) (xS (xw I 82 (Int32.toNatClampNeg (-(-2 : Int32))) ((I 82 (Int32.toNatClampNeg (-(-2 : Int32)))) + 1)) L z))) : xCd 3 207 [.ref 66, .int a1] (xS I L z) F := by
  have hd : 2 ≤ 2 := Nat.le_refl _
  exact xin_ (T := k_X9_noCups) (rt := 1) (ls := [some (.ref 66), some (.int a1), none]) rfl rfl rfl rfl (xgo b_X9_noCups_0 (xupD (c_X9_noRow (xite (fun c329 h329 => (xite (fun c328 h328 => (xite (fun c327 h327 => (xgo b_X9_noCups_5 (xitF (by decide) h327))) (fun c327 h327 => (xite (fun c326 h326 => (xite (fun c325 h325 => (xgo b_X9_noCups_5 (xitF (by decide) h325))) (fun c325 h325 => (xgo b_X9_noCups_5 (xitT (by decide) (xite (fun c324 h324 => (xite (fun c323 h323 => (xupD (c_X9_refuse (xitT (by decide) (xitT (by decide) (xgo b_X9_noCups_31 h323)))) (Nat.le_trans (by decide) hd))) (fun c323 h323 => h323) h324)) (fun c324 h324 => h324) h325)))) h326)) (fun c326 h326 => h326) h327)) h328)) (fun c328 h328 => h328) h329)) (fun c329 h329 => (xgo b_X9_noCups_5 (xitF (by decide) h329))) h)) (Nat.le_trans (by decide) hd)))
set_option maxRecDepth 100000 in
theorem c_X9_law {F : xQ} {I : xI} {L : xL} {z : Bool × Bool × Nat} {a1 : Int32} (h : (if p_X9_in I L (Int32.toInt64 a1) (Int64.ofNat 0) (Int64.ofNat 2) then F (some (.int (I 66 10))) (xS (xw I 66 10 a1) L z) else F (some (.int (-2 : Int32))) (xS (xw I 82 (Int32.toNatClampNeg (-(-2 : Int32))) ((I 82 (Int32.toNatClampNeg (-(-2 : Int32)))) + 1)) L z))) : xCd 2 211 [.ref 66, .int a1] (xS I L z) F := by
  have hd : 1 ≤ 1 := Nat.le_refl _
  exact xin_ (T := k_X9_law) (rt := 1) (ls := [some (.ref 66), some (.int a1), none]) rfl rfl rfl rfl (xgo b_X9_law_0 (xuse1 s_X9_in (Nat.le_trans (by decide) hd) (xgo b_X9_law_9 (xiteB (fun c338 h338 => h338) (fun c338 h338 => (xupD (c_X9_refuse (xitT (by decide) (xitT (by decide) (xgo b_X9_law_18 h338)))) (Nat.le_trans (by decide) hd))) h))))
set_option maxRecDepth 100000 in
theorem c_X9_sort {F : xQ} {I : xI} {L : xL} {z : Bool × Bool × Nat} {a1 : Int32} {a2 : Int32} {a3 : Int32} (h : (if p_X9_in I L (Int32.toInt64 a1) (Int64.ofNat 0) (Int64.ofNat 5) then (if p_X9_in I L (Int32.toInt64 a2) (Int64.ofNat 0) (Int64.ofNat 2) then (if p_X9_in I L (Int32.toInt64 a3) (Int64.ofNat 0) (Int64.ofNat 9) then (if xin a1 (6) then (bif xisi (xS I L z) (85 + 1 + Int32.toNatClampNeg a1) then (if xin a2 (xlen z.2.2 (85 + 1 + Int32.toNatClampNeg a1)) then (if xin a1 (6) then (bif xis (xS I L z) (85 + 1 + Int32.toNatClampNeg a1) 20 && Nat.blt 8 (85 + 1 + Int32.toNatClampNeg a1) then (if xin a2 (xlen z.2.2 (85 + 1 + Int32.toNatClampNeg a1)) then F (some (.int (I (85 + 1 + Int32.toNatClampNeg a1) (Int32.toNatClampNeg a2)))) (xS (xw I (85 + 1 + Int32.toNatClampNeg a1) (Int32.toNatClampNeg a2) a3) L z) else False) else False) else False) else False) else False) else False) else F (some (.int (-2 : Int32))) (xS (xw I 82 (Int32.toNatClampNeg (-(-2 : Int32))) ((I 82 (Int32.toNatClampNeg (-(-2 : Int32)))) + 1)) L z)) else F (some (.int (-2 : Int32))) (xS (xw I 82 (Int32.toNatClampNeg (-(-2 : Int32))) ((I 82 (Int32.toNatClampNeg (-(-2 : Int32)))) + 1)) L z)) else F (some (.int (-2 : Int32))) (xS (xw I 82 (Int32.toNatClampNeg (-(-2 : Int32))) ((I 82 (Int32.toNatClampNeg (-(-2 : Int32)))) + 1)) L z))) : xCd 2 212 [.ref 66, .int a1, .int a2, .int a3] (xS I L z) F := by
  have hd : 1 ≤ 1 := Nat.le_refl _
  exact xin_ (T := k_X9_sort) (rt := 1) (ls := [some (.ref 66), some (.int a1), some (.int a2), some (.int a3), none]) rfl rfl rfl rfl (xgo b_X9_sort_0 (xuse1 s_X9_in (Nat.le_trans (by decide) hd) (xgo b_X9_sort_9 (xiteB (fun c345 h345 => (xuse1 s_X9_in (Nat.le_trans (by decide) hd) (xgo b_X9_sort_21 (xiteB (fun c344 h344 => (xuse1 s_X9_in (Nat.le_trans (by decide) hd) (xgo b_X9_sort_33 (xiteB (fun c343 h343 => h343) (fun c343 h343 => (xupD (c_X9_refuse (xitT (by decide) (xitT (by decide) (xgo b_X9_sort_42 h343)))) (Nat.le_trans (by decide) hd))) h344)))) (fun c344 h344 => (xupD (c_X9_refuse (xitT (by decide) (xitT (by decide) (xgo b_X9_sort_42 h344)))) (Nat.le_trans (by decide) hd))) h345)))) (fun c345 h345 => (xupD (c_X9_refuse (xitT (by decide) (xitT (by decide) (xgo b_X9_sort_42 h345)))) (Nat.le_trans (by decide) hd))) h))))
set_option maxRecDepth 100000 in
theorem c_X9_guest {F : xQ} {I : xI} {L : xL} {z : Bool × Bool × Nat} {a1 : Int32} {a2 : Int32} {a3 : Int32} (h : (if p_X9_isPlace I L (Int32.toInt64 a1) then (if p_X9_in I L (Int32.toInt64 a2) (Int64.ofNat 18446744073709551615) (Int64.ofNat 5) then (if p_X9_in I L (Int32.toInt64 a3) (Int64.ofNat 0) (Int64.ofNat 9) then (if xin a1 (6) then (if xin a1 (6) then F (some (.int 1)) (xS (xw (xw I 92 (Int32.toNatClampNeg a1) a2) 93 (Int32.toNatClampNeg a1) a3) L z) else False) else False) else F (some (.int (-2 : Int32))) (xS (xw I 82 (Int32.toNatClampNeg (-(-2 : Int32))) ((I 82 (Int32.toNatClampNeg (-(-2 : Int32)))) + 1)) L z)) else F (some (.int (-2 : Int32))) (xS (xw I 82 (Int32.toNatClampNeg (-(-2 : Int32))) ((I 82 (Int32.toNatClampNeg (-(-2 : Int32)))) + 1)) L z)) else F (some (.int (-2 : Int32))) (xS (xw I 82 (Int32.toNatClampNeg (-(-2 : Int32))) ((I 82 (Int32.toNatClampNeg (-(-2 : Int32)))) + 1)) L z))) : xCd 3 213 [.ref 66, .int a1, .int a2, .int a3] (xS I L z) F := by
  have hd : 2 ≤ 2 := Nat.le_refl _
  exact xin_ (T := k_X9_guest) (rt := 1) (ls := [some (.ref 66), some (.int a1), some (.int a2), some (.int a3)]) rfl rfl rfl rfl (xgo b_X9_guest_0 (xuse1 s_X9_isPlace (Nat.le_trans (by decide) hd) (xgo b_X9_guest_6 (xiteB (fun c350 h350 => (xuse1 s_X9_in (Nat.le_trans (by decide) hd) (xgo b_X9_guest_20 (xiteB (fun c349 h349 => (xuse1 s_X9_in (Nat.le_trans (by decide) hd) (xgo b_X9_guest_32 (xiteB (fun c348 h348 => h348) (fun c348 h348 => (xupD (c_X9_refuse (xitT (by decide) (xitT (by decide) (xgo b_X9_guest_41 h348)))) (Nat.le_trans (by decide) hd))) h349)))) (fun c349 h349 => (xupD (c_X9_refuse (xitT (by decide) (xitT (by decide) (xgo b_X9_guest_41 h349)))) (Nat.le_trans (by decide) hd))) h350)))) (fun c350 h350 => (xupD (c_X9_refuse (xitT (by decide) (xitT (by decide) (xgo b_X9_guest_41 h350)))) (Nat.le_trans (by decide) hd))) h))))
set_option maxRecDepth 100000 in
theorem c_X9_addTeller {F : xQ} {I : xI} {L : xL} {z : Bool × Bool × Nat} {a1 : Int32} {a2 : Int32} (h : (if xin (I 66 17) (4) then (if xin ((xw I 101 (Int32.toNatClampNeg (I 66 17)) a1) 66 17) (4) then F none (xS (xw (xw (xw I 101 (Int32.toNatClampNeg (I 66 17)) a1) 102 (Int32.toNatClampNeg ((xw I 101 (Int32.toNatClampNeg (I 66 17)) a1) 66 17)) a2) 66 17 (((xw (xw I 101 (Int32.toNatClampNeg (I 66 17)) a1) 102 (Int32.toNatClampNeg ((xw I 101 (Int32.toNatClampNeg (I 66 17)) a1) 66 17)) a2) 66 17) + 1)) L z) else False) else False)) : xCd 1 214 [.ref 66, .int a1, .int a2] (xS I L z) F := by
  have hd : 0 ≤ 0 := Nat.le_refl _
  exact xin_ (T := k_X9_addTeller) (rt := 0) (ls := [some (.ref 66), some (.int a1), some (.int a2)]) rfl rfl rfl rfl (xgo b_X9_addTeller_0 h)
set_option maxRecDepth 100000 in
theorem c_X9_teller {F : xQ} {I : xI} {L : xL} {z : Bool × Bool × Nat} {a1 : Int32} {a2 : Int32} (h : (if p_X9_in I L (Int32.toInt64 a1) (Int64.ofNat 0) (Int64.ofNat 5) then (if p_X9_in I L (Int32.toInt64 a2) (Int64.ofNat 0) (Int64.ofNat 9) then (if (I 66 17) = 4 then F (some (.int (-6 : Int32))) (xS (xw I 82 (Int32.toNatClampNeg (-(-6 : Int32))) ((I 82 (Int32.toNatClampNeg (-(-6 : Int32)))) + 1)) L z) else (if xin (I 66 17) (4) then (if xin ((xw I 101 (Int32.toNatClampNeg (I 66 17)) a1) 66 17) (4) then F (some (.int (((xw (xw (xw I 101 (Int32.toNatClampNeg (I 66 17)) a1) 102 (Int32.toNatClampNeg ((xw I 101 (Int32.toNatClampNeg (I 66 17)) a1) 66 17)) a2) 66 17 (((xw (xw I 101 (Int32.toNatClampNeg (I 66 17)) a1) 102 (Int32.toNatClampNeg ((xw I 101 (Int32.toNatClampNeg (I 66 17)) a1) 66 17)) a2) 66 17) + 1)) 66 17) - 1))) (xS (xw (xw (xw I 101 (Int32.toNatClampNeg (I 66 17)) a1) 102 (Int32.toNatClampNeg ((xw I 101 (Int32.toNatClampNeg (I 66 17)) a1) 66 17)) a2) 66 17 (((xw (xw I 101 (Int32.toNatClampNeg (I 66 17)) a1) 102 (Int32.toNatClampNeg ((xw I 101 (Int32.toNatClampNeg (I 66 17)) a1) 66 17)) a2) 66 17) + 1)) L z) else False) else False)) else F (some (.int (-2 : Int32))) (xS (xw I 82 (Int32.toNatClampNeg (-(-2 : Int32))) ((I 82 (Int32.toNatClampNeg (-(-2 : Int32)))) + 1)) L z)) else F (some (.int (-2 : Int32))) (xS (xw I 82 (Int32.toNatClampNeg (-(-2 : Int32))) ((I 82 (Int32.toNatClampNeg (-(-2 : Int32)))) + 1)) L z))) : xCd 2 215 [.ref 66, .int a1, .int a2] (xS I L z) F := by
  have hd : 1 ≤ 1 := Nat.le_refl _
  exact xin_ (T := k_X9_teller) (rt := 1) (ls := [some (.ref 66), some (.int a1), some (.int a2)]) rfl rfl rfl rfl (xgo b_X9_teller_0 (xuse1 s_X9_in (Nat.le_trans (by decide) hd) (xgo b_X9_teller_9 (xiteB (fun c357 h357 => (xuse1 s_X9_in (Nat.le_trans (by decide) hd) (xgo b_X9_teller_21 (xiteB (fun c356 h356 => (xite (fun c355 h355 => (xupD (c_X9_refuse (xitT (by decide) (xitT (by decide) (xgo b_X9_teller_45 h355)))) (Nat.le_trans (by decide) hd))) (fun c355 h355 => (xupD (c_X9_addTeller (xite (fun c354 h354 => (xite (fun c353 h353 => (xgo b_X9_teller_52 h353)) (fun c353 h353 => h353) h354)) (fun c354 h354 => h354) h355)) (Nat.le_trans (by decide) hd))) h356)) (fun c356 h356 => (xupD (c_X9_refuse (xitT (by decide) (xitT (by decide) (xgo b_X9_teller_30 h356)))) (Nat.le_trans (by decide) hd))) h357)))) (fun c357 h357 => (xupD (c_X9_refuse (xitT (by decide) (xitT (by decide) (xgo b_X9_teller_30 h357)))) (Nat.le_trans (by decide) hd))) h))))
set_option maxRecDepth 100000 in
theorem c_X9_mayBe {F : xQ} {I : xI} {L : xL} {z : Bool × Bool × Nat} {a0 : Int32} {a1 : Int32} (h : (if a0 = 3 then F (some (.int (if p_X9_in I L (Int32.toInt64 a1) (Int64.ofNat 0) (Int64.ofNat 5) then 1 else 0))) (xS I L z) else F (some (.int (if p_X9_in I L (Int32.toInt64 a1) (Int64.ofNat 0) (Int64.ofNat 9) then 1 else 0))) (xS I L z))) : xCd 2 216 [.int a0, .int a1] (xS I L z) F := by
  have hd : 1 ≤ 1 := Nat.le_refl _
  exact xin_ (T := k_X9_mayBe) (rt := 2) (ls := [some (.int a0), some (.int a1)]) rfl rfl rfl rfl (xgo b_X9_mayBe_0 (xite (fun c358 h358 => (xuse1 s_X9_in (Nat.le_trans (by decide) hd) (xgo b_X9_mayBe_20 (xbifT xbool_b h358)))) (fun c358 h358 => (xuse1 s_X9_in (Nat.le_trans (by decide) hd) (xgo b_X9_mayBe_20 (xbifT xbool_b h358)))) h))
abbrev p_X9_mayBe (I : xI) (L : xL) (a0 : Int32) (a1 : Int32) : Prop := ((a0 = 3 ∧ (p_X9_in I L (Int32.toInt64 a1) (Int64.ofNat 0) (Int64.ofNat 5))) ∨ (¬ a0 = 3 ∧ (p_X9_in I L (Int32.toInt64 a1) (Int64.ofNat 0) (Int64.ofNat 9))))
set_option maxRecDepth 100000 in
theorem s_X9_mayBe {I : xI} {L : xL} {z : Bool × Bool × Nat} {a0 : Int32} {a1 : Int32} : xCd 2 216 [.int a0, .int a1] (xS I L z) (fun r τ => r = some (.int (if p_X9_mayBe I L a0 a1 then 1 else 0)) ∧ τ = xS I L z) := by
  by_cases hp : p_X9_mayBe I L a0 a1
  · rw [if_pos hp]
    refine c_X9_mayBe ?_
    try simp only [p_X9_mayBe, p_X9_in] at *
    try dsimp only
    repeat' split
    all_goals first | exact ⟨rfl, rfl⟩ | (exfalso; simp_all; done) | (exfalso; simp only [xin_iff, Int32.lt_iff_toInt_lt] at *; simp at *; omega) | grind
  · rw [if_neg hp]
    refine c_X9_mayBe ?_
    try simp only [p_X9_mayBe, p_X9_in] at *
    try dsimp only
    repeat' split
    all_goals first | exact ⟨rfl, rfl⟩ | (exfalso; simp_all; done) | (exfalso; simp only [xin_iff, Int32.lt_iff_toInt_lt] at *; simp at *; omega) | grind
set_option maxRecDepth 100000 in
theorem c_X9_feed {F : xQ} {I : xI} {L : xL} {z : Bool × Bool × Nat} {a1 : Int32} (h : (if p_X9_in I L (Int32.toInt64 a1) (Int64.ofNat 0) (Int64.ofNat 255) then (if (I 66 7) = 250 then F (some (.int (-6 : Int32))) (xS (xw I 82 (Int32.toNatClampNeg (-(-6 : Int32))) ((I 82 (Int32.toNatClampNeg (-(-6 : Int32)))) + 1)) L z) else (if xin (I 66 7) (250) then F (some (.int ((xw (xw I 66 7 ((I 66 7) + 1)) 81 (Int32.toNatClampNeg (I 66 7)) a1) 66 7))) (xS (xw (xw I 66 7 ((I 66 7) + 1)) 81 (Int32.toNatClampNeg (I 66 7)) a1) L z) else False)) else F (some (.int (-2 : Int32))) (xS (xw I 82 (Int32.toNatClampNeg (-(-2 : Int32))) ((I 82 (Int32.toNatClampNeg (-(-2 : Int32)))) + 1)) L z))) : xCd 2 220 [.ref 66, .int a1] (xS I L z) F := by
  have hd : 1 ≤ 1 := Nat.le_refl _
  exact xin_ (T := k_X9_feed) (rt := 1) (ls := [some (.ref 66), some (.int a1)]) rfl rfl rfl rfl (xgo b_X9_feed_0 (xuse1 s_X9_in (Nat.le_trans (by decide) hd) (xgo b_X9_feed_9 (xiteB (fun c364 h364 => (xite (fun c363 h363 => (xupD (c_X9_refuse (xitT (by decide) (xitT (by decide) (xgo b_X9_feed_35 h363)))) (Nat.le_trans (by decide) hd))) (fun c363 h363 => h363) h364)) (fun c364 h364 => (xupD (c_X9_refuse (xitT (by decide) (xitT (by decide) (xgo b_X9_feed_18 h364)))) (Nat.le_trans (by decide) hd))) h))))
set_option maxRecDepth 100000 in
theorem c_X9_wipe {F : xQ} {I : xI} {L : xL} {z : Bool × Bool × Nat}  (h : F (some (.int (I 66 7))) (xS (xw I 66 7 0) L z)) : xCd 1 221 [.ref 66] (xS I L z) F := by
  have hd : 0 ≤ 0 := Nat.le_refl _
  exact xin_ (T := k_X9_wipe) (rt := 1) (ls := [some (.ref 66), none]) rfl rfl rfl rfl (xgo b_X9_wipe_0 h)
set_option maxRecDepth 100000 in
theorem c_X9_isLetter {F : xQ} {I : xI} {L : xL} {z : Bool × Bool × Nat} {a0 : Int32} (h : (if a0 < 97 then F (some (.int 0)) (xS I L z) else (if 122 < a0 then F (some (.int 0)) (xS I L z) else F (some (.int 1)) (xS I L z)))) : xCd 1 222 [.int a0] (xS I L z) F := by
  have hd : 0 ≤ 0 := Nat.le_refl _
  exact xin_ (T := k_X9_isLetter) (rt := 2) (ls := [some (.int a0)]) rfl rfl rfl rfl (xgo b_X9_isLetter_0 h)
abbrev p_X9_isLetter (I : xI) (L : xL) (a0 : Int32) : Prop := (¬ a0 < 97 ∧ ¬ 122 < a0)
set_option maxRecDepth 100000 in
theorem s_X9_isLetter {I : xI} {L : xL} {z : Bool × Bool × Nat} {a0 : Int32} : xCd 1 222 [.int a0] (xS I L z) (fun r τ => r = some (.int (if p_X9_isLetter I L a0 then 1 else 0)) ∧ τ = xS I L z) := by
  by_cases hp : p_X9_isLetter I L a0
  · rw [if_pos hp]
    refine c_X9_isLetter ?_
    try simp only [p_X9_isLetter] at *
    try dsimp only
    repeat' split
    all_goals first | exact ⟨rfl, rfl⟩ | (exfalso; simp_all; done) | (exfalso; simp only [xin_iff, Int32.lt_iff_toInt_lt] at *; simp at *; omega) | grind
  · rw [if_neg hp]
    refine c_X9_isLetter ?_
    try simp only [p_X9_isLetter] at *
    try dsimp only
    repeat' split
    all_goals first | exact ⟨rfl, rfl⟩ | (exfalso; simp_all; done) | (exfalso; simp only [xin_iff, Int32.lt_iff_toInt_lt] at *; simp at *; omega) | grind
set_option maxRecDepth 100000 in
theorem c_X9_isDigit {F : xQ} {I : xI} {L : xL} {z : Bool × Bool × Nat} {a0 : Int32} (h : (if a0 < 48 then F (some (.int 0)) (xS I L z) else (if 57 < a0 then F (some (.int 0)) (xS I L z) else F (some (.int 1)) (xS I L z)))) : xCd 1 223 [.int a0] (xS I L z) F := by
  have hd : 0 ≤ 0 := Nat.le_refl _
  exact xin_ (T := k_X9_isDigit) (rt := 2) (ls := [some (.int a0)]) rfl rfl rfl rfl (xgo b_X9_isDigit_0 h)
abbrev p_X9_isDigit (I : xI) (L : xL) (a0 : Int32) : Prop := (¬ a0 < 48 ∧ ¬ 57 < a0)
set_option maxRecDepth 100000 in
theorem s_X9_isDigit {I : xI} {L : xL} {z : Bool × Bool × Nat} {a0 : Int32} : xCd 1 223 [.int a0] (xS I L z) (fun r τ => r = some (.int (if p_X9_isDigit I L a0 then 1 else 0)) ∧ τ = xS I L z) := by
  by_cases hp : p_X9_isDigit I L a0
  · rw [if_pos hp]
    refine c_X9_isDigit ?_
    try simp only [p_X9_isDigit] at *
    try dsimp only
    repeat' split
    all_goals first | exact ⟨rfl, rfl⟩ | (exfalso; simp_all; done) | (exfalso; simp only [xin_iff, Int32.lt_iff_toInt_lt] at *; simp at *; omega) | grind
  · rw [if_neg hp]
    refine c_X9_isDigit ?_
    try simp only [p_X9_isDigit] at *
    try dsimp only
    repeat' split
    all_goals first | exact ⟨rfl, rfl⟩ | (exfalso; simp_all; done) | (exfalso; simp only [xin_iff, Int32.lt_iff_toInt_lt] at *; simp at *; omega) | grind
set_option maxRecDepth 100000 in
theorem c_X9_wrong {F : xQ} {I : xI} {L : xL} {z : Bool × Bool × Nat}  (h : F (some (.int 0)) (xS (xw I 66 27 (I 66 25)) L z)) : xCd 1 225 [.ref 66] (xS I L z) F := by
  have hd : 0 ≤ 0 := Nat.le_refl _
  exact xin_ (T := k_X9_wrong) (rt := 2) (ls := [some (.ref 66)]) rfl rfl rfl rfl (xgo b_X9_wrong_0 h)
set_option maxRecDepth 100000 in
theorem c_X9_sortAt {F : xQ} {I : xI} {L : xL} {z : Bool × Bool × Nat} {a1 : Int32} {a2 : Int32} (h : (if xin ((a1 * 6) + a2) (4320) then F (some (.int (I 105 (Int32.toNatClampNeg ((a1 * 6) + a2))))) (xS I L z) else False)) : xCd 1 235 [.ref 66, .int a1, .int a2] (xS I L z) F := by
  have hd : 0 ≤ 0 := Nat.le_refl _
  exact xin_ (T := k_X9_sortAt) (rt := 1) (ls := [some (.ref 66), some (.int a1), some (.int a2)]) rfl rfl rfl rfl (xgo b_X9_sortAt_0 h)
set_option maxRecDepth 100000 in
theorem c_X9_numberAt {F : xQ} {I : xI} {L : xL} {z : Bool × Bool × Nat} {a1 : Int32} {a2 : Int32} {a3 : Int32} (h : (if xin ((a1 * 6) + a2) (4320) then (if xin (I 105 (Int32.toNatClampNeg ((a1 * 6) + a2))) (6) then (bif xisi (xS I L z) (85 + 1 + Int32.toNatClampNeg (I 105 (Int32.toNatClampNeg ((a1 * 6) + a2)))) then (if xin a3 (xlen z.2.2 (85 + 1 + Int32.toNatClampNeg (I 105 (Int32.toNatClampNeg ((a1 * 6) + a2))))) then F (some (.int (I (85 + 1 + Int32.toNatClampNeg (I 105 (Int32.toNatClampNeg ((a1 * 6) + a2)))) (Int32.toNatClampNeg a3)))) (xS I L z) else False) else False) else False) else False)) : xCd 2 242 [.ref 66, .int a1, .int a2, .int a3] (xS I L z) F := by
  have hd : 1 ≤ 1 := Nat.le_refl _
  exact xin_ (T := k_X9_numberAt) (rt := 1) (ls := [some (.ref 66), some (.int a1), some (.int a2), some (.int a3)]) rfl rfl rfl rfl (xgo b_X9_numberAt_0 (xupD (c_X9_sortAt (xite (fun c375 h375 => (xgo b_X9_numberAt_10 h375)) (fun c375 h375 => h375) h)) (Nat.le_trans (by decide) hd)))
set_option maxRecDepth 100000 in
theorem c_X9_isWrong {F : xQ} {I : xI} {L : xL} {z : Bool × Bool × Nat} {a1 : Int32} {a2 : Int32} (h : (if xin a1 (6) then (if (I 92 (Int32.toNatClampNeg a1)) = (-1 : Int32) then F (some (.int 0)) (xS I L z) else (if xin a1 (6) then (if (I 92 (Int32.toNatClampNeg a1)) = a2 then F (some (.int 0)) (xS I L z) else F (some (.int 1)) (xS I L z)) else False)) else False)) : xCd 1 266 [.ref 66, .int a1, .int a2] (xS I L z) F := by
  have hd : 0 ≤ 0 := Nat.le_refl _
  exact xin_ (T := k_X9_isWrong) (rt := 2) (ls := [some (.ref 66), some (.int a1), some (.int a2)]) rfl rfl rfl rfl (xgo b_X9_isWrong_0 h)
set_option maxRecDepth 100000 in
theorem c_X9_looks {F : xQ} {I : xI} {L : xL} {z : Bool × Bool × Nat} {a1 : Int32} {a2 : Int32} (h : (if xin a1 (6) then (if xin a1 (6) then (if xin (I 84 (Int32.toNatClampNeg a1)) (6) then (bif xisi (xS I L z) (85 + 1 + Int32.toNatClampNeg (I 84 (Int32.toNatClampNeg a1))) then (if xin a2 (xlen z.2.2 (85 + 1 + Int32.toNatClampNeg (I 84 (Int32.toNatClampNeg a1)))) then (bif xis (xS I L z) (94 + 1 + Int32.toNatClampNeg a1) 20 && Nat.blt 8 (94 + 1 + Int32.toNatClampNeg a1) then (if xin a2 (xlen z.2.2 (94 + 1 + Int32.toNatClampNeg a1)) then (if xin a1 (6) then (bif xisi (xS (xw I (94 + 1 + Int32.toNatClampNeg a1) (Int32.toNatClampNeg a2) (I (85 + 1 + Int32.toNatClampNeg (I 84 (Int32.toNatClampNeg a1))) (Int32.toNatClampNeg a2))) L z) (94 + 1 + Int32.toNatClampNeg a1) then (if xin a2 (xlen z.2.2 (94 + 1 + Int32.toNatClampNeg a1)) then F (some (.int ((xw I (94 + 1 + Int32.toNatClampNeg a1) (Int32.toNatClampNeg a2) (I (85 + 1 + Int32.toNatClampNeg (I 84 (Int32.toNatClampNeg a1))) (Int32.toNatClampNeg a2))) (94 + 1 + Int32.toNatClampNeg a1) (Int32.toNatClampNeg a2)))) (xS (xw I (94 + 1 + Int32.toNatClampNeg a1) (Int32.toNatClampNeg a2) (I (85 + 1 + Int32.toNatClampNeg (I 84 (Int32.toNatClampNeg a1))) (Int32.toNatClampNeg a2))) L z) else False) else False) else False) else False) else False) else False) else False) else False) else False) else False)) : xCd 1 286 [.ref 66, .int a1, .int a2] (xS I L z) F := by
  have hd : 0 ≤ 0 := Nat.le_refl _
  exact xin_ (T := k_X9_looks) (rt := 1) (ls := [some (.ref 66), some (.int a1), some (.int a2)]) rfl rfl rfl rfl (xgo b_X9_looks_0 h)
set_option maxRecDepth 100000 in
theorem c_X9_look_ {F : xQ} {I : xI} {L : xL} {z : Bool × Bool × Nat} {a1 : Int32} {a2 : Int32} (h : (if p_X9_isPlace I L (Int32.toInt64 a1) then (if p_X9_in I L (Int32.toInt64 a2) (Int64.ofNat 0) (Int64.ofNat 3) then (if xin a1 (6) then (bif xisi (xS I L z) (94 + 1 + Int32.toNatClampNeg a1) then (if xin a2 (xlen z.2.2 (94 + 1 + Int32.toNatClampNeg a1)) then (if (I (94 + 1 + Int32.toNatClampNeg a1) (Int32.toNatClampNeg a2)) = (-1 : Int32) then (if xin a1 (6) then (if xin a1 (6) then (if xin (I 84 (Int32.toNatClampNeg a1)) (6) then (bif xisi (xS I L z) (85 + 1 + Int32.toNatClampNeg (I 84 (Int32.toNatClampNeg a1))) then (if xin a2 (xlen z.2.2 (85 + 1 + Int32.toNatClampNeg (I 84 (Int32.toNatClampNeg a1)))) then (bif xis (xS I L z) (94 + 1 + Int32.toNatClampNeg a1) 20 && Nat.blt 8 (94 + 1 + Int32.toNatClampNeg a1) then (if xin a2 (xlen z.2.2 (94 + 1 + Int32.toNatClampNeg a1)) then (if xin a1 (6) then (bif xisi (xS (xw I (94 + 1 + Int32.toNatClampNeg a1) (Int32.toNatClampNeg a2) (I (85 + 1 + Int32.toNatClampNeg (I 84 (Int32.toNatClampNeg a1))) (Int32.toNatClampNeg a2))) L z) (94 + 1 + Int32.toNatClampNeg a1) then (if xin a2 (xlen z.2.2 (94 + 1 + Int32.toNatClampNeg a1)) then F (some (.int ((xw I (94 + 1 + Int32.toNatClampNeg a1) (Int32.toNatClampNeg a2) (I (85 + 1 + Int32.toNatClampNeg (I 84 (Int32.toNatClampNeg a1))) (Int32.toNatClampNeg a2))) (94 + 1 + Int32.toNatClampNeg a1) (Int32.toNatClampNeg a2)))) (xS (xw I (94 + 1 + Int32.toNatClampNeg a1) (Int32.toNatClampNeg a2) (I (85 + 1 + Int32.toNatClampNeg (I 84 (Int32.toNatClampNeg a1))) (Int32.toNatClampNeg a2))) L z) else False) else False) else False) else False) else False) else False) else False) else False) else False) else False) else (if xin a1 (6) then (if xin (I 84 (Int32.toNatClampNeg a1)) (6) then (bif xisi (xS I L z) (85 + 1 + Int32.toNatClampNeg (I 84 (Int32.toNatClampNeg a1))) then (if xin a2 (xlen z.2.2 (85 + 1 + Int32.toNatClampNeg (I 84 (Int32.toNatClampNeg a1)))) then F (some (.int (I (85 + 1 + Int32.toNatClampNeg (I 84 (Int32.toNatClampNeg a1))) (Int32.toNatClampNeg a2)))) (xS I L z) else False) else False) else False) else False)) else False) else False) else False) else F (some (.int (-2 : Int32))) (xS (xw I 82 (Int32.toNatClampNeg (-(-2 : Int32))) ((I 82 (Int32.toNatClampNeg (-(-2 : Int32)))) + 1)) L z)) else F (some (.int (-2 : Int32))) (xS (xw I 82 (Int32.toNatClampNeg (-(-2 : Int32))) ((I 82 (Int32.toNatClampNeg (-(-2 : Int32)))) + 1)) L z))) : xCd 3 287 [.ref 66, .int a1, .int a2] (xS I L z) F := by
  have hd : 2 ≤ 2 := Nat.le_refl _
  exact xin_ (T := k_X9_look_) (rt := 1) (ls := [some (.ref 66), some (.int a1), some (.int a2)]) rfl rfl rfl rfl (xgo b_X9_look__0 (xuse1 s_X9_isPlace (Nat.le_trans (by decide) hd) (xgo b_X9_look__6 (xiteB (fun c427 h427 => (xuse1 s_X9_in (Nat.le_trans (by decide) hd) (xgo b_X9_look__18 (xiteB (fun c426 h426 => (xite (fun c425 h425 => (xbif_mono (fun h424 => (xite (fun c423 h423 => (xite (fun c422 h422 => (xupD (c_X9_looks (xite (fun c417 h417 => (xite (fun c416 h416 => (xite (fun c415 h415 => (xbif_mono (fun h414 => (xite (fun c413 h413 => (xbif_mono (fun h412 => (xite (fun c411 h411 => (xite (fun c410 h410 => (xbif_mono (fun h409 => (xite (fun c408 h408 => (xgo b_X9_look__62 h408)) (fun c408 h408 => h408) h409)) h410)) (fun c410 h410 => h410) h411)) (fun c411 h411 => h411) h412)) h413)) (fun c413 h413 => h413) h414)) h415)) (fun c415 h415 => h415) h416)) (fun c416 h416 => h416) h417)) (fun c417 h417 => h417) h422)) (Nat.le_trans (by decide) hd))) (fun c422 h422 => (xite (fun c421 h421 => (xite (fun c420 h420 => (xbif_mono (fun h419 => (xite (fun c418 h418 => (xgo b_X9_look__62 h418)) (fun c418 h418 => h418) h419)) h420)) (fun c420 h420 => h420) h421)) (fun c421 h421 => h421) h422)) h423)) (fun c423 h423 => h423) h424)) h425)) (fun c425 h425 => h425) h426)) (fun c426 h426 => (xupD (c_X9_refuse (xitT (by decide) (xitT (by decide) (xgo b_X9_look__27 h426)))) (Nat.le_trans (by decide) hd))) h427)))) (fun c427 h427 => (xupD (c_X9_refuse (xitT (by decide) (xitT (by decide) (xgo b_X9_look__27 h427)))) (Nat.le_trans (by decide) hd))) h))))
set_option maxRecDepth 100000 in
theorem c_X9_below {F : xQ} {I : xI} {L : xL} {z : Bool × Bool × Nat} {a1 : Int32} (h : (if a1 = 0 then False else F (some (.int (((Int32.toUInt32 ((xw I 66 20 (((I 66 20) * 1103515245) + 12345)) 66 20) >>> (Int32.toUInt32 16 &&& Int32.toUInt32 31)).toInt32) - ((Int32.toUInt32 ((xw I 66 20 (((I 66 20) * 1103515245) + 12345)) 66 20) >>> (Int32.toUInt32 16 &&& Int32.toUInt32 31)).toInt32) / a1 * a1))) (xS (xw I 66 20 (((I 66 20) * 1103515245) + 12345)) L z))) : xCd 1 289 [.ref 66, .int a1] (xS I L z) F := by
  have hd : 0 ≤ 0 := Nat.le_refl _
  exact xin_ (T := k_X9_below) (rt := 1) (ls := [some (.ref 66), some (.int a1)]) rfl rfl rfl rfl (xgo b_X9_below_0 h)
set_option maxRecDepth 100000 in
theorem c_X9_stands {F : xQ} {I : xI} {L : xL} {z : Bool × Bool × Nat} {a1 : Int32} (h : (if p_X9_isPlace I L (Int32.toInt64 a1) then (if xin a1 (6) then F (some (.int (I 84 (Int32.toNatClampNeg a1)))) (xS I L z) else False) else F (some (.int (-2 : Int32))) (xS (xw I 82 (Int32.toNatClampNeg (-(-2 : Int32))) ((I 82 (Int32.toNatClampNeg (-(-2 : Int32)))) + 1)) L z))) : xCd 3 292 [.ref 66, .int a1] (xS I L z) F := by
  have hd : 2 ≤ 2 := Nat.le_refl _
  exact xin_ (T := k_X9_stands) (rt := 1) (ls := [some (.ref 66), some (.int a1)]) rfl rfl rfl rfl (xgo b_X9_stands_0 (xuse1 s_X9_isPlace (Nat.le_trans (by decide) hd) (xgo b_X9_stands_6 (xiteB (fun c430 h430 => (xite (fun c429 h429 => (xgo b_X9_stands_24 h429)) (fun c429 h429 => h429) h430)) (fun c430 h430 => (xupD (c_X9_refuse (xitT (by decide) (xitT (by decide) (xgo b_X9_stands_24 h430)))) (Nat.le_trans (by decide) hd))) h))))
set_option maxRecDepth 100000 in
theorem c_X9_seed {F : xQ} {I : xI} {L : xL} {z : Bool × Bool × Nat} {a1 : Int32} (h : F (some (.int (I 66 20))) (xS (xw I 66 20 a1) L z)) : xCd 1 293 [.ref 66, .int a1] (xS I L z) F := by
  have hd : 0 ≤ 0 := Nat.le_refl _
  exact xin_ (T := k_X9_seed) (rt := 1) (ls := [some (.ref 66), some (.int a1), none]) rfl rfl rfl rfl (xgo b_X9_seed_0 h)
set_option maxRecDepth 100000 in
theorem c_J6_bitCount_0f7a4 {F : xQ} {I : xI} {L : xL} {z : Bool × Bool × Nat} {a0 : Int32} (h : F (some (.int ((((((((a0 - (((Int32.toUInt32 a0 >>> (Int32.toUInt32 1 &&& Int32.toUInt32 31)).toInt32) &&& 1431655765)) &&& 858993459) + (((Int32.toUInt32 (a0 - (((Int32.toUInt32 a0 >>> (Int32.toUInt32 1 &&& Int32.toUInt32 31)).toInt32) &&& 1431655765)) >>> (Int32.toUInt32 2 &&& Int32.toUInt32 31)).toInt32) &&& 858993459)) + ((Int32.toUInt32 (((a0 - (((Int32.toUInt32 a0 >>> (Int32.toUInt32 1 &&& Int32.toUInt32 31)).toInt32) &&& 1431655765)) &&& 858993459) + (((Int32.toUInt32 (a0 - (((Int32.toUInt32 a0 >>> (Int32.toUInt32 1 &&& Int32.toUInt32 31)).toInt32) &&& 1431655765)) >>> (Int32.toUInt32 2 &&& Int32.toUInt32 31)).toInt32) &&& 858993459)) >>> (Int32.toUInt32 4 &&& Int32.toUInt32 31)).toInt32)) &&& 252645135) + ((Int32.toUInt32 (((((a0 - (((Int32.toUInt32 a0 >>> (Int32.toUInt32 1 &&& Int32.toUInt32 31)).toInt32) &&& 1431655765)) &&& 858993459) + (((Int32.toUInt32 (a0 - (((Int32.toUInt32 a0 >>> (Int32.toUInt32 1 &&& Int32.toUInt32 31)).toInt32) &&& 1431655765)) >>> (Int32.toUInt32 2 &&& Int32.toUInt32 31)).toInt32) &&& 858993459)) + ((Int32.toUInt32 (((a0 - (((Int32.toUInt32 a0 >>> (Int32.toUInt32 1 &&& Int32.toUInt32 31)).toInt32) &&& 1431655765)) &&& 858993459) + (((Int32.toUInt32 (a0 - (((Int32.toUInt32 a0 >>> (Int32.toUInt32 1 &&& Int32.toUInt32 31)).toInt32) &&& 1431655765)) >>> (Int32.toUInt32 2 &&& Int32.toUInt32 31)).toInt32) &&& 858993459)) >>> (Int32.toUInt32 4 &&& Int32.toUInt32 31)).toInt32)) &&& 252645135) >>> (Int32.toUInt32 8 &&& Int32.toUInt32 31)).toInt32)) + ((Int32.toUInt32 ((((((a0 - (((Int32.toUInt32 a0 >>> (Int32.toUInt32 1 &&& Int32.toUInt32 31)).toInt32) &&& 1431655765)) &&& 858993459) + (((Int32.toUInt32 (a0 - (((Int32.toUInt32 a0 >>> (Int32.toUInt32 1 &&& Int32.toUInt32 31)).toInt32) &&& 1431655765)) >>> (Int32.toUInt32 2 &&& Int32.toUInt32 31)).toInt32) &&& 858993459)) + ((Int32.toUInt32 (((a0 - (((Int32.toUInt32 a0 >>> (Int32.toUInt32 1 &&& Int32.toUInt32 31)).toInt32) &&& 1431655765)) &&& 858993459) + (((Int32.toUInt32 (a0 - (((Int32.toUInt32 a0 >>> (Int32.toUInt32 1 &&& Int32.toUInt32 31)).toInt32) &&& 1431655765)) >>> (Int32.toUInt32 2 &&& Int32.toUInt32 31)).toInt32) &&& 858993459)) >>> (Int32.toUInt32 4 &&& Int32.toUInt32 31)).toInt32)) &&& 252645135) + ((Int32.toUInt32 (((((a0 - (((Int32.toUInt32 a0 >>> (Int32.toUInt32 1 &&& Int32.toUInt32 31)).toInt32) &&& 1431655765)) &&& 858993459) + (((Int32.toUInt32 (a0 - (((Int32.toUInt32 a0 >>> (Int32.toUInt32 1 &&& Int32.toUInt32 31)).toInt32) &&& 1431655765)) >>> (Int32.toUInt32 2 &&& Int32.toUInt32 31)).toInt32) &&& 858993459)) + ((Int32.toUInt32 (((a0 - (((Int32.toUInt32 a0 >>> (Int32.toUInt32 1 &&& Int32.toUInt32 31)).toInt32) &&& 1431655765)) &&& 858993459) + (((Int32.toUInt32 (a0 - (((Int32.toUInt32 a0 >>> (Int32.toUInt32 1 &&& Int32.toUInt32 31)).toInt32) &&& 1431655765)) >>> (Int32.toUInt32 2 &&& Int32.toUInt32 31)).toInt32) &&& 858993459)) >>> (Int32.toUInt32 4 &&& Int32.toUInt32 31)).toInt32)) &&& 252645135) >>> (Int32.toUInt32 8 &&& Int32.toUInt32 31)).toInt32)) >>> (Int32.toUInt32 16 &&& Int32.toUInt32 31)).toInt32)) &&& 63))) (xS I L z)) : xCd 1 299 [.int a0] (xS I L z) F := by
  have hd : 0 ≤ 0 := Nat.le_refl _
  exact xin_ (T := k_J6_bitCount_0f7a4) (rt := 1) (ls := [some (.int a0)]) rfl rfl rfl rfl (xgo b_J6_bitCount_0f7a4_0 h)
def f_J6_bitCount_0f7a4 (I : xI) (L : xL) (a0 : Int32) : Int32 := (((((((a0 - (((Int32.toUInt32 a0 >>> (Int32.toUInt32 1 &&& Int32.toUInt32 31)).toInt32) &&& 1431655765)) &&& 858993459) + (((Int32.toUInt32 (a0 - (((Int32.toUInt32 a0 >>> (Int32.toUInt32 1 &&& Int32.toUInt32 31)).toInt32) &&& 1431655765)) >>> (Int32.toUInt32 2 &&& Int32.toUInt32 31)).toInt32) &&& 858993459)) + ((Int32.toUInt32 (((a0 - (((Int32.toUInt32 a0 >>> (Int32.toUInt32 1 &&& Int32.toUInt32 31)).toInt32) &&& 1431655765)) &&& 858993459) + (((Int32.toUInt32 (a0 - (((Int32.toUInt32 a0 >>> (Int32.toUInt32 1 &&& Int32.toUInt32 31)).toInt32) &&& 1431655765)) >>> (Int32.toUInt32 2 &&& Int32.toUInt32 31)).toInt32) &&& 858993459)) >>> (Int32.toUInt32 4 &&& Int32.toUInt32 31)).toInt32)) &&& 252645135) + ((Int32.toUInt32 (((((a0 - (((Int32.toUInt32 a0 >>> (Int32.toUInt32 1 &&& Int32.toUInt32 31)).toInt32) &&& 1431655765)) &&& 858993459) + (((Int32.toUInt32 (a0 - (((Int32.toUInt32 a0 >>> (Int32.toUInt32 1 &&& Int32.toUInt32 31)).toInt32) &&& 1431655765)) >>> (Int32.toUInt32 2 &&& Int32.toUInt32 31)).toInt32) &&& 858993459)) + ((Int32.toUInt32 (((a0 - (((Int32.toUInt32 a0 >>> (Int32.toUInt32 1 &&& Int32.toUInt32 31)).toInt32) &&& 1431655765)) &&& 858993459) + (((Int32.toUInt32 (a0 - (((Int32.toUInt32 a0 >>> (Int32.toUInt32 1 &&& Int32.toUInt32 31)).toInt32) &&& 1431655765)) >>> (Int32.toUInt32 2 &&& Int32.toUInt32 31)).toInt32) &&& 858993459)) >>> (Int32.toUInt32 4 &&& Int32.toUInt32 31)).toInt32)) &&& 252645135) >>> (Int32.toUInt32 8 &&& Int32.toUInt32 31)).toInt32)) + ((Int32.toUInt32 ((((((a0 - (((Int32.toUInt32 a0 >>> (Int32.toUInt32 1 &&& Int32.toUInt32 31)).toInt32) &&& 1431655765)) &&& 858993459) + (((Int32.toUInt32 (a0 - (((Int32.toUInt32 a0 >>> (Int32.toUInt32 1 &&& Int32.toUInt32 31)).toInt32) &&& 1431655765)) >>> (Int32.toUInt32 2 &&& Int32.toUInt32 31)).toInt32) &&& 858993459)) + ((Int32.toUInt32 (((a0 - (((Int32.toUInt32 a0 >>> (Int32.toUInt32 1 &&& Int32.toUInt32 31)).toInt32) &&& 1431655765)) &&& 858993459) + (((Int32.toUInt32 (a0 - (((Int32.toUInt32 a0 >>> (Int32.toUInt32 1 &&& Int32.toUInt32 31)).toInt32) &&& 1431655765)) >>> (Int32.toUInt32 2 &&& Int32.toUInt32 31)).toInt32) &&& 858993459)) >>> (Int32.toUInt32 4 &&& Int32.toUInt32 31)).toInt32)) &&& 252645135) + ((Int32.toUInt32 (((((a0 - (((Int32.toUInt32 a0 >>> (Int32.toUInt32 1 &&& Int32.toUInt32 31)).toInt32) &&& 1431655765)) &&& 858993459) + (((Int32.toUInt32 (a0 - (((Int32.toUInt32 a0 >>> (Int32.toUInt32 1 &&& Int32.toUInt32 31)).toInt32) &&& 1431655765)) >>> (Int32.toUInt32 2 &&& Int32.toUInt32 31)).toInt32) &&& 858993459)) + ((Int32.toUInt32 (((a0 - (((Int32.toUInt32 a0 >>> (Int32.toUInt32 1 &&& Int32.toUInt32 31)).toInt32) &&& 1431655765)) &&& 858993459) + (((Int32.toUInt32 (a0 - (((Int32.toUInt32 a0 >>> (Int32.toUInt32 1 &&& Int32.toUInt32 31)).toInt32) &&& 1431655765)) >>> (Int32.toUInt32 2 &&& Int32.toUInt32 31)).toInt32) &&& 858993459)) >>> (Int32.toUInt32 4 &&& Int32.toUInt32 31)).toInt32)) &&& 252645135) >>> (Int32.toUInt32 8 &&& Int32.toUInt32 31)).toInt32)) >>> (Int32.toUInt32 16 &&& Int32.toUInt32 31)).toInt32)) &&& 63
set_option maxRecDepth 100000 in
theorem s_J6_bitCount_0f7a4 {I : xI} {L : xL} {z : Bool × Bool × Nat} {a0 : Int32} : xCd 1 299 [.int a0] (xS I L z) (fun r τ => r = some (.int (f_J6_bitCount_0f7a4 I L a0)) ∧ τ = xS I L z) := by
  unfold f_J6_bitCount_0f7a4
  refine c_J6_bitCount_0f7a4 ?_
  skip
  try dsimp only
  repeat' split
  all_goals first | exact ⟨rfl, rfl⟩ | (exfalso; simp_all; done) | (exfalso; simp only [xin_iff, Int32.lt_iff_toInt_lt] at *; simp at *; omega) | grind
set_option maxRecDepth 100000 in
theorem c_X0_wrongWorlds {F : xQ} {I : xI} {L : xL} {z : Bool × Bool × Nat} {a1 : Int32} {a2 : Int32} (h : (if (f_X6_wantOf I L a1) = (-1 : Int32) then F (some (.int 0)) (xS I L z) else F (some (.int ((I 37 1) - (f_X7_howManyStand I L a2 (f_X6_wantOf I L a1))))) (xS I L z))) : xCd 2 2 [.ref 50, .int a1, .int a2] (xS I L z) F := by
  have hd : 1 ≤ 1 := Nat.le_refl _
  exact xin_ (T := k_X0_wrongWorlds) (rt := 1) (ls := [some (.ref 50), some (.int a1), some (.int a2), none]) rfl rfl rfl rfl (xgo b_X0_wrongWorlds_0 (xuse1 s_X6_wantOf (Nat.le_trans (by decide) hd) (xgo b_X0_wrongWorlds_8 (xite (fun c434 h434 => h434) (fun c434 h434 => (xuse1 s_X7_howManyStand (Nat.le_trans (by decide) hd) (xgo b_X0_wrongWorlds_34 h434))) h))))
def f_X0_wrongWorlds (I : xI) (L : xL) (a1 : Int32) (a2 : Int32) : Int32 := (if (f_X6_wantOf I L a1) = (-1 : Int32) then 0 else (I 37 1) - (f_X7_howManyStand I L a2 (f_X6_wantOf I L a1)))
set_option maxRecDepth 100000 in
theorem s_X0_wrongWorlds {I : xI} {L : xL} {z : Bool × Bool × Nat} {a1 : Int32} {a2 : Int32} : xCd 2 2 [.ref 50, .int a1, .int a2] (xS I L z) (fun r τ => r = some (.int (f_X0_wrongWorlds I L a1 a2)) ∧ τ = xS I L z) := by
  unfold f_X0_wrongWorlds
  refine c_X0_wrongWorlds ?_
  skip
  try dsimp only
  repeat' split
  all_goals first | exact ⟨rfl, rfl⟩ | (exfalso; simp_all; done) | (exfalso; simp only [xin_iff, Int32.lt_iff_toInt_lt] at *; simp at *; omega) | grind
set_option maxRecDepth 100000 in
theorem c_X0_suits {F : xQ} {I : xI} {L : xL} {z : Bool × Bool × Nat} {a1 : Int32} {a2 : Int32} (h : (if (f_X6_wantOf I L a1) = (-1 : Int32) then F (some (.int 1)) (xS I L z) else (if (f_X6_truthAt I L a2) = (f_X6_wantOf I L a1) then F (some (.int 1)) (xS I L z) else F (some (.int 0)) (xS I L z)))) : xCd 2 3 [.ref 50, .int a1, .int a2] (xS I L z) F := by
  have hd : 1 ≤ 1 := Nat.le_refl _
  exact xin_ (T := k_X0_suits) (rt := 2) (ls := [some (.ref 50), some (.int a1), some (.int a2), none]) rfl rfl rfl rfl (xgo b_X0_suits_0 (xuse1 s_X6_wantOf (Nat.le_trans (by decide) hd) (xgo b_X0_suits_8 (xite (fun c436 h436 => h436) (fun c436 h436 => (xuse1 s_X6_truthAt (Nat.le_trans (by decide) hd) (xgo b_X0_suits_22 h436))) h))))
abbrev p_X0_suits (I : xI) (L : xL) (a1 : Int32) (a2 : Int32) : Prop := ((f_X6_wantOf I L a1) = (-1 : Int32) ∨ (f_X6_truthAt I L a2) = (f_X6_wantOf I L a1))
set_option maxRecDepth 100000 in
theorem s_X0_suits {I : xI} {L : xL} {z : Bool × Bool × Nat} {a1 : Int32} {a2 : Int32} : xCd 2 3 [.ref 50, .int a1, .int a2] (xS I L z) (fun r τ => r = some (.int (if p_X0_suits I L a1 a2 then 1 else 0)) ∧ τ = xS I L z) := by
  by_cases hp : p_X0_suits I L a1 a2
  · rw [if_pos hp]
    refine c_X0_suits ?_
    try simp only [p_X0_suits] at *
    try dsimp only
    repeat' split
    all_goals first | exact ⟨rfl, rfl⟩ | (exfalso; simp_all; done) | (exfalso; simp only [xin_iff, Int32.lt_iff_toInt_lt] at *; simp at *; omega) | grind
  · rw [if_neg hp]
    refine c_X0_suits ?_
    try simp only [p_X0_suits] at *
    try dsimp only
    repeat' split
    all_goals first | exact ⟨rfl, rfl⟩ | (exfalso; simp_all; done) | (exfalso; simp only [xin_iff, Int32.lt_iff_toInt_lt] at *; simp at *; omega) | grind
set_option maxRecDepth 100000 in
theorem c_X0_holderOfTaken {F : xQ} {I : xI} {L : xL} {z : Bool × Bool × Nat} {a1 : Int32} (h : (if a1 < 0 then (if p_X6_hasPlace I L (-1 : Int32) then False else F (some (.int 0)) (xS I L z)) else (if a1 < 6 then (if xin a1 (6) then (if p_X6_hasPlace I L (I 55 (Int32.toNatClampNeg a1)) then (if xin (I 55 (Int32.toNatClampNeg a1)) (6) then F (some (.int (I 54 (Int32.toNatClampNeg (I 55 (Int32.toNatClampNeg a1)))))) (xS I L z) else False) else F (some (.int 0)) (xS I L z)) else False) else (if p_X6_hasPlace I L (-1 : Int32) then False else F (some (.int 0)) (xS I L z))))) : xCd 2 9 [.ref 50, .int a1] (xS I L z) F := by
  have hd : 1 ≤ 1 := Nat.le_refl _
  exact xin_ (T := k_X0_holderOfTaken) (rt := 1) (ls := [some (.ref 50), some (.int a1), none]) rfl rfl rfl rfl (xgo b_X0_holderOfTaken_0 (xite (fun c443 h443 => (xuse1 s_X6_hasPlace (Nat.le_trans (by decide) hd) (xgo b_X0_holderOfTaken_32 (xiteB (fun c437 h437 => (xitF (by decide) h437)) (fun c437 h437 => h437) h443)))) (fun c443 h443 => (xite (fun c442 h442 => (xite (fun c440 h440 => (xuse1 s_X6_hasPlace (Nat.le_trans (by decide) hd) (xgo b_X0_holderOfTaken_32 (xiteB (fun c439 h439 => h439) (fun c439 h439 => h439) h440)))) (fun c440 h440 => h440) h442)) (fun c442 h442 => (xuse1 s_X6_hasPlace (Nat.le_trans (by decide) hd) (xgo b_X0_holderOfTaken_32 (xiteB (fun c441 h441 => (xitF (by decide) h441)) (fun c441 h441 => h441) h442)))) h443)) h))
def f_X0_holderOfTaken (I : xI) (L : xL) (a1 : Int32) : Int32 := (if a1 < 0 then (if p_X6_hasPlace I L (-1 : Int32) then 0 else 0) else (if a1 < 6 then (if xin a1 (6) then (if p_X6_hasPlace I L (I 55 (Int32.toNatClampNeg a1)) then (if xin (I 55 (Int32.toNatClampNeg a1)) (6) then I 54 (Int32.toNatClampNeg (I 55 (Int32.toNatClampNeg a1))) else 0) else 0) else 0) else (if p_X6_hasPlace I L (-1 : Int32) then 0 else 0)))
set_option maxRecDepth 100000 in
theorem s_X0_holderOfTaken {I : xI} {L : xL} {z : Bool × Bool × Nat} {a1 : Int32} : xCd 2 9 [.ref 50, .int a1] (xS I L z) (fun r τ => r = some (.int (f_X0_holderOfTaken I L a1)) ∧ τ = xS I L z) := by
  unfold f_X0_holderOfTaken
  refine c_X0_holderOfTaken ?_
  try simp only [p_X6_hasPlace] at *
  try dsimp only
  repeat' split
  all_goals first | exact ⟨rfl, rfl⟩ | (exfalso; simp_all; done) | (exfalso; simp only [xin_iff, Int32.lt_iff_toInt_lt] at *; simp at *; omega) | grind
set_option maxRecDepth 100000 in
theorem c_X2_putElement {F : xQ} {I : xI} {L : xL} {z : Bool × Bool × Nat} {a1 : Int32} {a2 : Int32} {a3 : Int64} (h : (if p_X2_hasElement I L a1 a2 then (if xin a1 (8) then (if xin ((a1 * 40) + a2) (320) then F none (xS I (xwl L 60 (Int32.toNatClampNeg ((a1 * 40) + a2)) (f_X2_cutTo I L (I 58 (Int32.toNatClampNeg a1)) a3)) z) else False) else False) else F none (xS I L z))) : xCd 3 46 [.ref 57, .int a1, .int a2, .long a3] (xS I L z) F := by
  have hd : 2 ≤ 2 := Nat.le_refl _
  exact xin_ (T := k_X2_putElement) (rt := 0) (ls := [some (.ref 57), some (.int a1), some (.int a2), some (.long a3), none]) rfl rfl rfl rfl (xgo b_X2_putElement_0 (xuse1 s_X2_hasElement (Nat.le_trans (by decide) hd) (xgo b_X2_putElement_6 (xiteB (fun c446 h446 => (xite (fun c445 h445 => (xuse1 s_X2_cutTo (Nat.le_trans (by decide) hd) (xgo b_X2_putElement_29 h445))) (fun c445 h445 => h445) h446)) (fun c446 h446 => h446) h))))
set_option maxRecDepth 100000 in
theorem c_X8_set {F : xQ} {I : xI} {L : xL} {z : Bool × Bool × Nat} {a1 : Int32} {a2 : Int32} {a3 : Int64} (h : (if (f_X2_faultOfRow I L a1) = 0 then (if p_X2_hasElement I L a1 a2 then (if p_X2_hasElement I L a1 a2 then (if xin a1 (8) then (if xin ((a1 * 40) + a2) (320) then F (some (.int 1)) (xS I (xwl L 60 (Int32.toNatClampNeg ((a1 * 40) + a2)) (f_X2_cutTo I L (I 58 (Int32.toNatClampNeg a1)) a3)) z) else False) else False) else F (some (.int 1)) (xS I L z)) else F (some (.int (-2 : Int32))) (xS (xrfu I (-2 : Int32)) L z)) else F (some (.int (f_X2_faultOfRow I L a1))) (xS (xrfu I (f_X2_faultOfRow I L a1)) L z))) : xCd 4 134 [.ref 9, .int a1, .int a2, .long a3] (xS I L z) F := by
  have hd : 3 ≤ 3 := Nat.le_refl _
  exact xin_ (T := k_X8_set) (rt := 1) (ls := [some (.ref 9), some (.int a1), some (.int a2), some (.long a3), none, none]) rfl rfl rfl rfl (xgo b_X8_set_0 (xuse1 s_X2_faultOfRow (Nat.le_trans (by decide) hd) (xgo b_X8_set_8 (xite (fun c465 h465 => (xuse1 s_X2_hasElement (Nat.le_trans (by decide) hd) (xgo b_X8_set_31 (xiteB (fun c464 h464 => (xupD (c_X2_putElement (xite (fun c463 h463 => (xite (fun c462 h462 => (xite (fun c461 h461 => (xgo b_X8_set_51 h461)) (fun c461 h461 => h461) h462)) (fun c462 h462 => h462) h463)) (fun c463 h463 => (xgo b_X8_set_51 h463)) h464)) (Nat.le_trans (by decide) hd))) (fun c464 h464 => (xuse1 s_X8_refuse (Nat.le_trans (by decide) hd) (xgo b_X8_set_40 h464))) h465)))) (fun c465 h465 => (xuse1 s_X8_refuse (Nat.le_trans (by decide) hd) (xgo b_X8_set_21 h465))) h))))
set_option maxRecDepth 100000 in
theorem c_X8_sort {F : xQ} {I : xI} {L : xL} {z : Bool × Bool × Nat} {a1 : Int32} {a2 : Int32} {a3 : Int32} (h : (if p_X8_isSort I L a1 then (if p_X8_isLook I L a2 then (if p_X8_isNumber I L a3 then (if ((a1 * 3) + a2) < 0 then F (some (.int (f_X6_numberOf I L a2 a1))) (xS (xw I 10 6 1) L z) else (if ((a1 * 3) + a2) < 18 then (if xin ((a1 * 3) + a2) (18) then F (some (.int (f_X6_numberOf I L a2 a1))) (xS (xw (xw I 13 (Int32.toNatClampNeg ((a1 * 3) + a2)) a3) 10 6 1) L z) else False) else F (some (.int (f_X6_numberOf I L a2 a1))) (xS (xw I 10 6 1) L z))) else F (some (.int (-2 : Int32))) (xS (xrfu I (-2 : Int32)) L z)) else F (some (.int (-2 : Int32))) (xS (xrfu I (-2 : Int32)) L z)) else F (some (.int (-2 : Int32))) (xS (xrfu I (-2 : Int32)) L z))) : xCd 2 143 [.ref 9, .int a1, .int a2, .int a3] (xS I L z) F := by
  have hd : 1 ≤ 1 := Nat.le_refl _
  exact xin_ (T := k_X8_sort) (rt := 1) (ls := [some (.ref 9), some (.int a1), some (.int a2), some (.int a3), none]) rfl rfl rfl rfl (xgo b_X8_sort_0 (xuse1 s_X8_isSort (Nat.le_trans (by decide) hd) (xgo b_X8_sort_4 (xiteB (fun c477 h477 => (xuse1 s_X8_isLook (Nat.le_trans (by decide) hd) (xgo b_X8_sort_11 (xiteB (fun c476 h476 => (xuse1 s_X8_isNumber (Nat.le_trans (by decide) hd) (xgo b_X8_sort_18 (xiteB (fun c475 h475 => (xuse1 s_X6_numberOf (Nat.le_trans (by decide) hd) (xgo b_X8_sort_37 (xupD (c_X6_setNumber (xite (fun c474 h474 => (xgo b_X8_sort_49 h474)) (fun c474 h474 => (xite (fun c473 h473 => (xite (fun c472 h472 => (xgo b_X8_sort_49 h472)) (fun c472 h472 => h472) h473)) (fun c473 h473 => (xgo b_X8_sort_49 h473)) h474)) h475)) (Nat.le_trans (by decide) hd))))) (fun c475 h475 => (xuse1 s_X8_refuse (Nat.le_trans (by decide) hd) (xgo b_X8_sort_27 h475))) h476)))) (fun c476 h476 => (xuse1 s_X8_refuse (Nat.le_trans (by decide) hd) (xgo b_X8_sort_27 h476))) h477)))) (fun c477 h477 => (xuse1 s_X8_refuse (Nat.le_trans (by decide) hd) (xgo b_X8_sort_27 h477))) h))))
set_option maxRecDepth 100000 in
theorem c_X8_guest {F : xQ} {I : xI} {L : xL} {z : Bool × Bool × Nat} {a1 : Int32} {a2 : Int32} {a3 : Int32} (h : (if p_X6_hasPlace I L a1 then (if a2 = (-1 : Int32) then (if p_X8_isNumber I L a3 then (if p_X6_hasPlace I L a1 then (if xin a1 (6) then (if xin a1 (6) then F (some (.int 1)) (xS (xw (xw I 14 (Int32.toNatClampNeg a1) a2) 15 (Int32.toNatClampNeg a1) a3) L z) else False) else False) else F (some (.int 1)) (xS I L z)) else F (some (.int (-2 : Int32))) (xS (xrfu I (-2 : Int32)) L z)) else (if p_X8_isSort I L a2 then (if p_X8_isNumber I L a3 then (if p_X6_hasPlace I L a1 then (if xin a1 (6) then (if xin a1 (6) then F (some (.int 1)) (xS (xw (xw I 14 (Int32.toNatClampNeg a1) a2) 15 (Int32.toNatClampNeg a1) a3) L z) else False) else False) else F (some (.int 1)) (xS I L z)) else F (some (.int (-2 : Int32))) (xS (xrfu I (-2 : Int32)) L z)) else F (some (.int (-2 : Int32))) (xS (xrfu I (-2 : Int32)) L z))) else F (some (.int (-2 : Int32))) (xS (xrfu I (-2 : Int32)) L z))) : xCd 3 144 [.ref 9, .int a1, .int a2, .int a3] (xS I L z) F := by
  have hd : 2 ≤ 2 := Nat.le_refl _
  exact xin_ (T := k_X8_guest) (rt := 1) (ls := [some (.ref 9), some (.int a1), some (.int a2), some (.int a3)]) rfl rfl rfl rfl (xgo b_X8_guest_0 (xuse1 s_X6_hasPlace (Nat.le_trans (by decide) hd) (xgo b_X8_guest_8 (xiteB (fun c488 h488 => (xite (fun c487 h487 => (xuse1 s_X8_isNumber (Nat.le_trans (by decide) hd) (xgo b_X8_guest_27 (xiteB (fun c481 h481 => (xupD (c_X6_setGuest (xite (fun c480 h480 => (xite (fun c479 h479 => (xite (fun c478 h478 => (xgo b_X8_guest_47 h478)) (fun c478 h478 => h478) h479)) (fun c479 h479 => h479) h480)) (fun c480 h480 => (xgo b_X8_guest_47 h480)) h481)) (Nat.le_trans (by decide) hd))) (fun c481 h481 => (xuse1 s_X8_refuse (Nat.le_trans (by decide) hd) (xgo b_X8_guest_36 h481))) h487)))) (fun c487 h487 => (xuse1 s_X8_isSort (Nat.le_trans (by decide) hd) (xgo b_X8_guest_20 (xiteB (fun c486 h486 => (xuse1 s_X8_isNumber (Nat.le_trans (by decide) hd) (xgo b_X8_guest_27 (xiteB (fun c485 h485 => (xupD (c_X6_setGuest (xite (fun c484 h484 => (xite (fun c483 h483 => (xite (fun c482 h482 => (xgo b_X8_guest_47 h482)) (fun c482 h482 => h482) h483)) (fun c483 h483 => h483) h484)) (fun c484 h484 => (xgo b_X8_guest_47 h484)) h485)) (Nat.le_trans (by decide) hd))) (fun c485 h485 => (xuse1 s_X8_refuse (Nat.le_trans (by decide) hd) (xgo b_X8_guest_36 h485))) h486)))) (fun c486 h486 => (xuse1 s_X8_refuse (Nat.le_trans (by decide) hd) (xgo b_X8_guest_36 h486))) h487)))) h488)) (fun c488 h488 => (xuse1 s_X8_refuse (Nat.le_trans (by decide) hd) (xgo b_X8_guest_36 h488))) h))))
set_option maxRecDepth 100000 in
theorem c_X8_teller {F : xQ} {I : xI} {L : xL} {z : Bool × Bool × Nat} {a1 : Int32} {a2 : Int32} (h : (if p_X5_isKind I L a1 then (if p_X8_isNumber I L a2 then (if (I 10 4) < 4 then (if (I 10 4) < 0 then F (some (.int (-1 : Int32))) (xS I L z) else (if (I 10 4) < 4 then (if xin (I 10 4) (4) then (if xin (I 10 4) (4) then F (some (.int (I 10 4))) (xS (xw (xw (xw I 17 (Int32.toNatClampNeg (I 10 4)) a1) 18 (Int32.toNatClampNeg (I 10 4)) a2) 10 4 (((xw (xw I 17 (Int32.toNatClampNeg (I 10 4)) a1) 18 (Int32.toNatClampNeg (I 10 4)) a2) 10 4) + 1)) L z) else False) else False) else F (some (.int (-1 : Int32))) (xS I L z))) else F (some (.int (-6 : Int32))) (xS (xrfu I (-6 : Int32)) L z)) else F (some (.int (-2 : Int32))) (xS (xrfu I (-2 : Int32)) L z)) else F (some (.int (-2 : Int32))) (xS (xrfu I (-2 : Int32)) L z))) : xCd 2 145 [.ref 9, .int a1, .int a2] (xS I L z) F := by
  have hd : 1 ≤ 1 := Nat.le_refl _
  exact xin_ (T := k_X8_teller) (rt := 1) (ls := [some (.ref 9), some (.int a1), some (.int a2)]) rfl rfl rfl rfl (xgo b_X8_teller_0 (xuse1 s_X5_isKind (Nat.le_trans (by decide) hd) (xgo b_X8_teller_4 (xiteB (fun c495 h495 => (xuse1 s_X8_isNumber (Nat.le_trans (by decide) hd) (xgo b_X8_teller_11 (xiteB (fun c494 h494 => (xite (fun c493 h493 => (xupD (c_X6_addTeller (xite (fun c492 h492 => (xgo b_X8_teller_48 h492)) (fun c492 h492 => (xite (fun c491 h491 => (xite (fun c490 h490 => (xite (fun c489 h489 => (xgo b_X8_teller_48 h489)) (fun c489 h489 => h489) h490)) (fun c490 h490 => h490) h491)) (fun c491 h491 => (xgo b_X8_teller_48 h491)) h492)) h493)) (Nat.le_trans (by decide) hd))) (fun c493 h493 => (xuse1 s_X8_refuse (Nat.le_trans (by decide) hd) (xgo b_X8_teller_38 h493))) h494)) (fun c494 h494 => (xuse1 s_X8_refuse (Nat.le_trans (by decide) hd) (xgo b_X8_teller_20 h494))) h495)))) (fun c495 h495 => (xuse1 s_X8_refuse (Nat.le_trans (by decide) hd) (xgo b_X8_teller_20 h495))) h))))
