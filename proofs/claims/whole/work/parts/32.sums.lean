theorem c_X0_meanWith {F : xQ} {I : xI} {L : xL} {z : Bool × Bool × Nat} {a1 : Int32} {a2 : Int32} {a3 : Int32} (h : (if ((a1 * 6) + a3) < 0 then F (some (.int 0)) (xS I L z) else (if ((a1 * 6) + a3) < 36 then (if (a2 ||| (1 <<< (a3 &&& 31))) < 0 then F (some (.int 0)) (xS I L z) else (if (a2 ||| (1 <<< (a3 &&& 31))) < 64 then (if xin ((a1 * 6) + a3) (36) then (if xin (a2 ||| (1 <<< (a3 &&& 31))) (64) then F (some (.int ((I 51 (Int32.toNatClampNeg ((a1 * 6) + a3))) + (I 52 (Int32.toNatClampNeg (a2 ||| (1 <<< (a3 &&& 31)))))))) (xS I L z) else False) else False) else F (some (.int 0)) (xS I L z))) else F (some (.int 0)) (xS I L z)))) : xCd 1 13 [.ref 50, .int a1, .int a2, .int a3] (xS I L z) F := by
  have hd : 0 ≤ 0 := Nat.le_refl _
  exact xin_ (T := k_X0_meanWith) (rt := 1) (ls := [some (.ref 50), some (.int a1), some (.int a2), some (.int a3), none, none]) rfl rfl rfl rfl (xgo b_X0_meanWith_0 h)
def f_X0_meanWith (I : xI) (L : xL) (a1 : Int32) (a2 : Int32) (a3 : Int32) : Int32 := (if ((a1 * 6) + a3) < 0 then 0 else (if ((a1 * 6) + a3) < 36 then (if (a2 ||| (1 <<< (a3 &&& 31))) < 0 then 0 else (if (a2 ||| (1 <<< (a3 &&& 31))) < 64 then (if xin ((a1 * 6) + a3) (36) then (if xin (a2 ||| (1 <<< (a3 &&& 31))) (64) then (I 51 (Int32.toNatClampNeg ((a1 * 6) + a3))) + (I 52 (Int32.toNatClampNeg (a2 ||| (1 <<< (a3 &&& 31))))) else 0) else 0) else 0)) else 0))
theorem s_X0_meanWith {I : xI} {L : xL} {z : Bool × Bool × Nat} {a1 : Int32} {a2 : Int32} {a3 : Int32} : xCd 1 13 [.ref 50, .int a1, .int a2, .int a3] (xS I L z) (fun r τ => r = some (.int (f_X0_meanWith I L a1 a2 a3)) ∧ τ = xS I L z) := by
  unfold f_X0_meanWith
  refine c_X0_meanWith ?_
  skip
  dsimp only
  repeat' split
  all_goals first | exact ⟨rfl, rfl⟩ | (exfalso; simp_all; done) | (exfalso; simp only [xin_iff, Int32.lt_iff_toInt_lt] at *; simp at *; omega) | grind
theorem c_X0_leastMean {F : xQ} {I : xI} {L : xL} {z : Bool × Bool × Nat}  (h : F (some (.int (I 52 (Int32.toNatClampNeg 0)))) (xS I L z)) : xCd 1 14 [.ref 50] (xS I L z) F := by
  have hd : 0 ≤ 0 := Nat.le_refl _
  exact xin_ (T := k_X0_leastMean) (rt := 1) (ls := [some (.ref 50)]) rfl rfl rfl rfl (xgo b_X0_leastMean_0 h)
def f_X0_leastMean (I : xI) (L : xL)  : Int32 := I 52 (Int32.toNatClampNeg 0)
theorem s_X0_leastMean {I : xI} {L : xL} {z : Bool × Bool × Nat}  : xCd 1 14 [.ref 50] (xS I L z) (fun r τ => r = some (.int (f_X0_leastMean I L )) ∧ τ = xS I L z) := by
  unfold f_X0_leastMean
  refine c_X0_leastMean ?_
  skip
  dsimp only
  repeat' split
  all_goals first | exact ⟨rfl, rfl⟩ | (exfalso; simp_all; done) | (exfalso; simp only [xin_iff, Int32.lt_iff_toInt_lt] at *; simp at *; omega) | grind
theorem c_X0_bestPlaceOf {F : xQ} {I : xI} {L : xL} {z : Bool × Bool × Nat} {a1 : Int32} (h : (if a1 < 0 then F (some (.int 0)) (xS I L z) else (if a1 < 6 then (if xin a1 (6) then F (some (.int (I 53 (Int32.toNatClampNeg a1)))) (xS I L z) else False) else F (some (.int 0)) (xS I L z)))) : xCd 1 15 [.ref 50, .int a1] (xS I L z) F := by
  have hd : 0 ≤ 0 := Nat.le_refl _
  exact xin_ (T := k_X0_bestPlaceOf) (rt := 1) (ls := [some (.ref 50), some (.int a1)]) rfl rfl rfl rfl (xgo b_X0_bestPlaceOf_0 h)
def f_X0_bestPlaceOf (I : xI) (L : xL) (a1 : Int32) : Int32 := (if a1 < 0 then 0 else (if a1 < 6 then (if xin a1 (6) then I 53 (Int32.toNatClampNeg a1) else 0) else 0))
theorem s_X0_bestPlaceOf {I : xI} {L : xL} {z : Bool × Bool × Nat} {a1 : Int32} : xCd 1 15 [.ref 50, .int a1] (xS I L z) (fun r τ => r = some (.int (f_X0_bestPlaceOf I L a1)) ∧ τ = xS I L z) := by
  unfold f_X0_bestPlaceOf
  refine c_X0_bestPlaceOf ?_
  skip
  dsimp only
  repeat' split
  all_goals first | exact ⟨rfl, rfl⟩ | (exfalso; simp_all; done) | (exfalso; simp only [xin_iff, Int32.lt_iff_toInt_lt] at *; simp at *; omega) | grind
theorem c_X2_isShelf {F : xQ} {I : xI} {L : xL} {z : Bool × Bool × Nat} {a0 : Int32} (h : (if a0 < 0 then F (some (.int 0)) (xS I L z) else (if a0 < 8 then F (some (.int 1)) (xS I L z) else F (some (.int 0)) (xS I L z)))) : xCd 1 35 [.int a0] (xS I L z) F := by
  have hd : 0 ≤ 0 := Nat.le_refl _
  exact xin_ (T := k_X2_isShelf) (rt := 2) (ls := [some (.int a0)]) rfl rfl rfl rfl (xgo b_X2_isShelf_0 h)
abbrev p_X2_isShelf (I : xI) (L : xL) (a0 : Int32) : Prop := (¬ a0 < 0 ∧ a0 < 8)
theorem s_X2_isShelf {I : xI} {L : xL} {z : Bool × Bool × Nat} {a0 : Int32} : xCd 1 35 [.int a0] (xS I L z) (fun r τ => r = some (.int (if p_X2_isShelf I L a0 then 1 else 0)) ∧ τ = xS I L z) := by
  by_cases hp : p_X2_isShelf I L a0
  · rw [if_pos hp]
    refine c_X2_isShelf ?_
    try simp only [p_X2_isShelf] at *
    dsimp only
    repeat' split
    all_goals first | exact ⟨rfl, rfl⟩ | (exfalso; simp_all; done) | (exfalso; simp only [xin_iff, Int32.lt_iff_toInt_lt] at *; simp at *; omega) | grind
  · rw [if_neg hp]
    refine c_X2_isShelf ?_
    try simp only [p_X2_isShelf] at *
    dsimp only
    repeat' split
    all_goals first | exact ⟨rfl, rfl⟩ | (exfalso; simp_all; done) | (exfalso; simp only [xin_iff, Int32.lt_iff_toInt_lt] at *; simp at *; omega) | grind
theorem c_X2_isSort {F : xQ} {I : xI} {L : xL} {z : Bool × Bool × Nat} {a0 : Int32} (h : (if a0 < 0 then F (some (.int 0)) (xS I L z) else (if a0 < 5 then F (some (.int 1)) (xS I L z) else F (some (.int 0)) (xS I L z)))) : xCd 1 36 [.int a0] (xS I L z) F := by
  have hd : 0 ≤ 0 := Nat.le_refl _
  exact xin_ (T := k_X2_isSort) (rt := 2) (ls := [some (.int a0)]) rfl rfl rfl rfl (xgo b_X2_isSort_0 h)
abbrev p_X2_isSort (I : xI) (L : xL) (a0 : Int32) : Prop := (¬ a0 < 0 ∧ a0 < 5)
theorem s_X2_isSort {I : xI} {L : xL} {z : Bool × Bool × Nat} {a0 : Int32} : xCd 1 36 [.int a0] (xS I L z) (fun r τ => r = some (.int (if p_X2_isSort I L a0 then 1 else 0)) ∧ τ = xS I L z) := by
  by_cases hp : p_X2_isSort I L a0
  · rw [if_pos hp]
    refine c_X2_isSort ?_
    try simp only [p_X2_isSort] at *
    dsimp only
    repeat' split
    all_goals first | exact ⟨rfl, rfl⟩ | (exfalso; simp_all; done) | (exfalso; simp only [xin_iff, Int32.lt_iff_toInt_lt] at *; simp at *; omega) | grind
  · rw [if_neg hp]
    refine c_X2_isSort ?_
    try simp only [p_X2_isSort] at *
    dsimp only
    repeat' split
    all_goals first | exact ⟨rfl, rfl⟩ | (exfalso; simp_all; done) | (exfalso; simp only [xin_iff, Int32.lt_iff_toInt_lt] at *; simp at *; omega) | grind
theorem c_X2_isSize {F : xQ} {I : xI} {L : xL} {z : Bool × Bool × Nat} {a0 : Int32} (h : (if a0 < 0 then F (some (.int 0)) (xS I L z) else (if 40 < a0 then F (some (.int 0)) (xS I L z) else F (some (.int 1)) (xS I L z)))) : xCd 1 37 [.int a0] (xS I L z) F := by
  have hd : 0 ≤ 0 := Nat.le_refl _
  exact xin_ (T := k_X2_isSize) (rt := 2) (ls := [some (.int a0)]) rfl rfl rfl rfl (xgo b_X2_isSize_0 h)
abbrev p_X2_isSize (I : xI) (L : xL) (a0 : Int32) : Prop := (¬ a0 < 0 ∧ ¬ 40 < a0)
theorem s_X2_isSize {I : xI} {L : xL} {z : Bool × Bool × Nat} {a0 : Int32} : xCd 1 37 [.int a0] (xS I L z) (fun r τ => r = some (.int (if p_X2_isSize I L a0 then 1 else 0)) ∧ τ = xS I L z) := by
  by_cases hp : p_X2_isSize I L a0
  · rw [if_pos hp]
    refine c_X2_isSize ?_
    try simp only [p_X2_isSize] at *
    dsimp only
    repeat' split
    all_goals first | exact ⟨rfl, rfl⟩ | (exfalso; simp_all; done) | (exfalso; simp only [xin_iff, Int32.lt_iff_toInt_lt] at *; simp at *; omega) | grind
  · rw [if_neg hp]
    refine c_X2_isSize ?_
    try simp only [p_X2_isSize] at *
    dsimp only
    repeat' split
    all_goals first | exact ⟨rfl, rfl⟩ | (exfalso; simp_all; done) | (exfalso; simp only [xin_iff, Int32.lt_iff_toInt_lt] at *; simp at *; omega) | grind
theorem c_X2_thingOf {F : xQ} {I : xI} {L : xL} {z : Bool × Bool × Nat} {a1 : Int32} (h : (if p_X2_isShelf I L a1 then (if xin a1 (8) then F (some (.int (I 58 (Int32.toNatClampNeg a1)))) (xS I L z) else False) else F (some (.int (-1 : Int32))) (xS I L z))) : xCd 2 38 [.ref 57, .int a1] (xS I L z) F := by
  have hd : 1 ≤ 1 := Nat.le_refl _
  exact xin_ (T := k_X2_thingOf) (rt := 1) (ls := [some (.ref 57), some (.int a1)]) rfl rfl rfl rfl (xgo b_X2_thingOf_0 (xuse1 s_X2_isShelf (Nat.le_trans (by decide) hd) (xgo b_X2_thingOf_4 (xiteB (fun c20 h20 => h20) (fun c20 h20 => h20) h))))
def f_X2_thingOf (I : xI) (L : xL) (a1 : Int32) : Int32 := (if p_X2_isShelf I L a1 then (if xin a1 (8) then I 58 (Int32.toNatClampNeg a1) else 0) else (-1 : Int32))
theorem s_X2_thingOf {I : xI} {L : xL} {z : Bool × Bool × Nat} {a1 : Int32} : xCd 2 38 [.ref 57, .int a1] (xS I L z) (fun r τ => r = some (.int (f_X2_thingOf I L a1)) ∧ τ = xS I L z) := by
  unfold f_X2_thingOf
  refine c_X2_thingOf ?_
  try simp only [p_X2_isShelf] at *
  dsimp only
  repeat' split
  all_goals first | exact ⟨rfl, rfl⟩ | (exfalso; simp_all; done) | (exfalso; simp only [xin_iff, Int32.lt_iff_toInt_lt] at *; simp at *; omega) | grind
theorem c_X2_hasRow {F : xQ} {I : xI} {L : xL} {z : Bool × Bool × Nat} {a1 : Int32} (h : (if a1 < 0 then F (some (.int 0)) (xS I L z) else (if a1 < 8 then (if xin a1 (8) then (if (I 58 (Int32.toNatClampNeg a1)) < 0 then F (some (.int 0)) (xS I L z) else (if xin a1 (8) then (if (I 58 (Int32.toNatClampNeg a1)) < 5 then F (some (.int 1)) (xS I L z) else F (some (.int 0)) (xS I L z)) else False)) else False) else F (some (.int 0)) (xS I L z)))) : xCd 1 39 [.ref 57, .int a1] (xS I L z) F := by
  have hd : 0 ≤ 0 := Nat.le_refl _
  exact xin_ (T := k_X2_hasRow) (rt := 2) (ls := [some (.ref 57), some (.int a1)]) rfl rfl rfl rfl (xgo b_X2_hasRow_0 h)
abbrev p_X2_hasRow (I : xI) (L : xL) (a1 : Int32) : Prop := (¬ a1 < 0 ∧ (a1 < 8 ∧ (xin a1 (8) ∧ (¬ (I 58 (Int32.toNatClampNeg a1)) < 0 ∧ (xin a1 (8) ∧ (I 58 (Int32.toNatClampNeg a1)) < 5)))))
theorem s_X2_hasRow {I : xI} {L : xL} {z : Bool × Bool × Nat} {a1 : Int32} : xCd 1 39 [.ref 57, .int a1] (xS I L z) (fun r τ => r = some (.int (if p_X2_hasRow I L a1 then 1 else 0)) ∧ τ = xS I L z) := by
  by_cases hp : p_X2_hasRow I L a1
  · rw [if_pos hp]
    refine c_X2_hasRow ?_
    try simp only [p_X2_hasRow] at *
    dsimp only
    repeat' split
    all_goals first | exact ⟨rfl, rfl⟩ | (exfalso; simp_all; done) | (exfalso; simp only [xin_iff, Int32.lt_iff_toInt_lt] at *; simp at *; omega) | grind
  · rw [if_neg hp]
    refine c_X2_hasRow ?_
    try simp only [p_X2_hasRow] at *
    dsimp only
    repeat' split
    all_goals first | exact ⟨rfl, rfl⟩ | (exfalso; simp_all; done) | (exfalso; simp only [xin_iff, Int32.lt_iff_toInt_lt] at *; simp at *; omega) | grind
theorem c_X2_faultOfRow {F : xQ} {I : xI} {L : xL} {z : Bool × Bool × Nat} {a1 : Int32} (h : (if p_X2_isShelf I L a1 then (if p_X2_hasRow I L a1 then F (some (.int 0)) (xS I L z) else (if xin a1 (8) then (if (I 58 (Int32.toNatClampNeg a1)) = (-1 : Int32) then F (some (.int (-4 : Int32))) (xS I L z) else F (some (.int (-3 : Int32))) (xS I L z)) else False)) else F (some (.int (-2 : Int32))) (xS I L z))) : xCd 2 40 [.ref 57, .int a1] (xS I L z) F := by
  have hd : 1 ≤ 1 := Nat.le_refl _
  exact xin_ (T := k_X2_faultOfRow) (rt := 1) (ls := [some (.ref 57), some (.int a1)]) rfl rfl rfl rfl (xgo b_X2_faultOfRow_0 (xuse1 s_X2_isShelf (Nat.le_trans (by decide) hd) (xgo b_X2_faultOfRow_4 (xiteB (fun c30 h30 => (xuse1 s_X2_hasRow (Nat.le_trans (by decide) hd) (xgo b_X2_faultOfRow_15 (xiteB (fun c29 h29 => h29) (fun c29 h29 => h29) h30)))) (fun c30 h30 => h30) h))))
def f_X2_faultOfRow (I : xI) (L : xL) (a1 : Int32) : Int32 := (if p_X2_isShelf I L a1 then (if p_X2_hasRow I L a1 then 0 else (if xin a1 (8) then (if (I 58 (Int32.toNatClampNeg a1)) = (-1 : Int32) then (-4 : Int32) else (-3 : Int32)) else 0)) else (-2 : Int32))
theorem s_X2_faultOfRow {I : xI} {L : xL} {z : Bool × Bool × Nat} {a1 : Int32} : xCd 2 40 [.ref 57, .int a1] (xS I L z) (fun r τ => r = some (.int (f_X2_faultOfRow I L a1)) ∧ τ = xS I L z) := by
  unfold f_X2_faultOfRow
  refine c_X2_faultOfRow ?_
  try simp only [p_X2_hasRow, p_X2_isShelf] at *
  dsimp only
  repeat' split
  all_goals first | exact ⟨rfl, rfl⟩ | (exfalso; simp_all; done) | (exfalso; simp only [xin_iff, Int32.lt_iff_toInt_lt] at *; simp at *; omega) | grind
theorem c_X2_faultOfPair {F : xQ} {I : xI} {L : xL} {z : Bool × Bool × Nat} {a1 : Int32} {a2 : Int32} (h : (if p_X2_isShelf I L a1 then (if p_X2_isShelf I L a2 then (if xin a1 (8) then (if (I 58 (Int32.toNatClampNeg a1)) = (-1 : Int32) then (if xin a1 (8) then (if (I 58 (Int32.toNatClampNeg a1)) < 10 then (if xin a2 (8) then (if (I 58 (Int32.toNatClampNeg a2)) < 10 then F (some (.int (-4 : Int32))) (xS I L z) else F (some (.int (-3 : Int32))) (xS I L z)) else False) else F (some (.int (-3 : Int32))) (xS I L z)) else False) else (if xin a2 (8) then (if (I 58 (Int32.toNatClampNeg a2)) = (-1 : Int32) then (if xin a1 (8) then (if (I 58 (Int32.toNatClampNeg a1)) < 10 then (if xin a2 (8) then (if (I 58 (Int32.toNatClampNeg a2)) < 10 then F (some (.int (-4 : Int32))) (xS I L z) else F (some (.int (-3 : Int32))) (xS I L z)) else False) else F (some (.int (-3 : Int32))) (xS I L z)) else False) else (if xin a1 (8) then (if (I 58 (Int32.toNatClampNeg a1)) < 10 then (if xin a2 (8) then (if (I 58 (Int32.toNatClampNeg a2)) < 10 then (if xin a1 (8) then (if xin a2 (8) then (if (I 58 (Int32.toNatClampNeg a1)) = (I 58 (Int32.toNatClampNeg a2)) then F (some (.int 0)) (xS I L z) else F (some (.int (-3 : Int32))) (xS I L z)) else False) else False) else F (some (.int (-3 : Int32))) (xS I L z)) else False) else F (some (.int (-3 : Int32))) (xS I L z)) else False)) else False)) else False) else F (some (.int (-2 : Int32))) (xS I L z)) else F (some (.int (-2 : Int32))) (xS I L z))) : xCd 2 41 [.ref 57, .int a1, .int a2] (xS I L z) F := by
  have hd : 1 ≤ 1 := Nat.le_refl _
  exact xin_ (T := k_X2_faultOfPair) (rt := 1) (ls := [some (.ref 57), some (.int a1), some (.int a2), none, none]) rfl rfl rfl rfl (xgo b_X2_faultOfPair_0 (xuse1 s_X2_isShelf (Nat.le_trans (by decide) hd) (xgo b_X2_faultOfPair_4 (xiteB (fun c51 h51 => (xuse1 s_X2_isShelf (Nat.le_trans (by decide) hd) (xgo b_X2_faultOfPair_11 (xiteB (fun c50 h50 => (xite (fun c49 h49 => (xite (fun c48 h48 => (xgo b_X2_faultOfPair_42 (xite (fun c34 h34 => (xite (fun c33 h33 => (xite (fun c32 h32 => (xite (fun c31 h31 => (xgo b_X2_faultOfPair_70 (xitT (by decide) (xitF (by decide) (xitF (by decide) h31))))) (fun c31 h31 => (xgo b_X2_faultOfPair_70 (xitF (by decide) h31))) h32)) (fun c32 h32 => h32) h33)) (fun c33 h33 => (xgo b_X2_faultOfPair_70 (xitF (by decide) h33))) h34)) (fun c34 h34 => h34) h48))) (fun c48 h48 => (xite (fun c47 h47 => (xite (fun c46 h46 => (xgo b_X2_faultOfPair_42 (xite (fun c38 h38 => (xite (fun c37 h37 => (xite (fun c36 h36 => (xite (fun c35 h35 => (xgo b_X2_faultOfPair_70 (xitT (by decide) (xitF (by decide) (xitF (by decide) h35))))) (fun c35 h35 => (xgo b_X2_faultOfPair_70 (xitF (by decide) h35))) h36)) (fun c36 h36 => h36) h37)) (fun c37 h37 => (xgo b_X2_faultOfPair_70 (xitF (by decide) h37))) h38)) (fun c38 h38 => h38) h46))) (fun c46 h46 => (xgo b_X2_faultOfPair_42 (xite (fun c45 h45 => (xite (fun c44 h44 => (xite (fun c43 h43 => (xite (fun c42 h42 => (xgo b_X2_faultOfPair_70 (xitT (by decide) (xitT (by decide) (xite (fun c41 h41 => (xite (fun c40 h40 => (xite (fun c39 h39 => (xitT (by decide) h39)) (fun c39 h39 => h39) h40)) (fun c40 h40 => h40) h41)) (fun c41 h41 => h41) h42))))) (fun c42 h42 => (xgo b_X2_faultOfPair_70 (xitF (by decide) h42))) h43)) (fun c43 h43 => h43) h44)) (fun c44 h44 => (xgo b_X2_faultOfPair_70 (xitF (by decide) h44))) h45)) (fun c45 h45 => h45) h46))) h47)) (fun c47 h47 => h47) h48)) h49)) (fun c49 h49 => h49) h50)) (fun c50 h50 => h50) h51)))) (fun c51 h51 => h51) h))))
def f_X2_faultOfPair (I : xI) (L : xL) (a1 : Int32) (a2 : Int32) : Int32 := (if p_X2_isShelf I L a1 then (if p_X2_isShelf I L a2 then (if xin a1 (8) then (if (I 58 (Int32.toNatClampNeg a1)) = (-1 : Int32) then (if xin a1 (8) then (if (I 58 (Int32.toNatClampNeg a1)) < 10 then (if xin a2 (8) then (if (I 58 (Int32.toNatClampNeg a2)) < 10 then (-4 : Int32) else (-3 : Int32)) else 0) else (-3 : Int32)) else 0) else (if xin a2 (8) then (if (I 58 (Int32.toNatClampNeg a2)) = (-1 : Int32) then (if xin a1 (8) then (if (I 58 (Int32.toNatClampNeg a1)) < 10 then (if xin a2 (8) then (if (I 58 (Int32.toNatClampNeg a2)) < 10 then (-4 : Int32) else (-3 : Int32)) else 0) else (-3 : Int32)) else 0) else (if xin a1 (8) then (if (I 58 (Int32.toNatClampNeg a1)) < 10 then (if xin a2 (8) then (if (I 58 (Int32.toNatClampNeg a2)) < 10 then (if xin a1 (8) then (if xin a2 (8) then (if (I 58 (Int32.toNatClampNeg a1)) = (I 58 (Int32.toNatClampNeg a2)) then 0 else (-3 : Int32)) else 0) else 0) else (-3 : Int32)) else 0) else (-3 : Int32)) else 0)) else 0)) else 0) else (-2 : Int32)) else (-2 : Int32))
theorem s_X2_faultOfPair {I : xI} {L : xL} {z : Bool × Bool × Nat} {a1 : Int32} {a2 : Int32} : xCd 2 41 [.ref 57, .int a1, .int a2] (xS I L z) (fun r τ => r = some (.int (f_X2_faultOfPair I L a1 a2)) ∧ τ = xS I L z) := by
  unfold f_X2_faultOfPair
  refine c_X2_faultOfPair ?_
  try simp only [p_X2_isShelf] at *
  dsimp only
  repeat' split
  all_goals first | exact ⟨rfl, rfl⟩ | (exfalso; simp_all; done) | (exfalso; simp only [xin_iff, Int32.lt_iff_toInt_lt] at *; simp at *; omega) | grind
theorem c_X2_hasElement {F : xQ} {I : xI} {L : xL} {z : Bool × Bool × Nat} {a1 : Int32} {a2 : Int32} (h : (if p_X2_hasRow I L a1 then (if a2 < 0 then F (some (.int 0)) (xS I L z) else (if xin a1 (8) then (if a2 < (I 59 (Int32.toNatClampNeg a1)) then (if a2 < 40 then F (some (.int 1)) (xS I L z) else F (some (.int 0)) (xS I L z)) else F (some (.int 0)) (xS I L z)) else False)) else F (some (.int 0)) (xS I L z))) : xCd 2 42 [.ref 57, .int a1, .int a2] (xS I L z) F := by
  have hd : 1 ≤ 1 := Nat.le_refl _
  exact xin_ (T := k_X2_hasElement) (rt := 2) (ls := [some (.ref 57), some (.int a1), some (.int a2)]) rfl rfl rfl rfl (xgo b_X2_hasElement_0 (xuse1 s_X2_hasRow (Nat.le_trans (by decide) hd) (xgo b_X2_hasElement_5 (xiteB (fun c56 h56 => h56) (fun c56 h56 => h56) h))))
abbrev p_X2_hasElement (I : xI) (L : xL) (a1 : Int32) (a2 : Int32) : Prop := (p_X2_hasRow I L a1 ∧ (¬ a2 < 0 ∧ (xin a1 (8) ∧ (a2 < (I 59 (Int32.toNatClampNeg a1)) ∧ a2 < 40))))
theorem s_X2_hasElement {I : xI} {L : xL} {z : Bool × Bool × Nat} {a1 : Int32} {a2 : Int32} : xCd 2 42 [.ref 57, .int a1, .int a2] (xS I L z) (fun r τ => r = some (.int (if p_X2_hasElement I L a1 a2 then 1 else 0)) ∧ τ = xS I L z) := by
  by_cases hp : p_X2_hasElement I L a1 a2
  · rw [if_pos hp]
    refine c_X2_hasElement ?_
    try simp only [p_X2_hasElement, p_X2_hasRow] at *
    dsimp only
    repeat' split
    all_goals first | exact ⟨rfl, rfl⟩ | (exfalso; simp_all; done) | (exfalso; simp only [xin_iff, Int32.lt_iff_toInt_lt] at *; simp at *; omega) | grind
  · rw [if_neg hp]
    refine c_X2_hasElement ?_
    try simp only [p_X2_hasElement, p_X2_hasRow] at *
    dsimp only
    repeat' split
    all_goals first | exact ⟨rfl, rfl⟩ | (exfalso; simp_all; done) | (exfalso; simp only [xin_iff, Int32.lt_iff_toInt_lt] at *; simp at *; omega) | grind
theorem c_X2_hasElements {F : xQ} {I : xI} {L : xL} {z : Bool × Bool × Nat} {a1 : Int32} {a2 : Int32} {a3 : Int32} (h : (if p_X2_hasRow I L a1 then (if a2 < 0 then F (some (.int 0)) (xS I L z) else (if a3 < 0 then F (some (.int 0)) (xS I L z) else (if xin a1 (8) then (if (I 59 (Int32.toNatClampNeg a1)) < a3 then F (some (.int 0)) (xS I L z) else (if xin a1 (8) then (if ((I 59 (Int32.toNatClampNeg a1)) - a3) < a2 then F (some (.int 0)) (xS I L z) else F (some (.int 1)) (xS I L z)) else False)) else False))) else F (some (.int 0)) (xS I L z))) : xCd 2 43 [.ref 57, .int a1, .int a2, .int a3] (xS I L z) F := by
  have hd : 1 ≤ 1 := Nat.le_refl _
  exact xin_ (T := k_X2_hasElements) (rt := 2) (ls := [some (.ref 57), some (.int a1), some (.int a2), some (.int a3)]) rfl rfl rfl rfl (xgo b_X2_hasElements_0 (xuse1 s_X2_hasRow (Nat.le_trans (by decide) hd) (xgo b_X2_hasElements_5 (xiteB (fun c63 h63 => h63) (fun c63 h63 => h63) h))))
abbrev p_X2_hasElements (I : xI) (L : xL) (a1 : Int32) (a2 : Int32) (a3 : Int32) : Prop := (p_X2_hasRow I L a1 ∧ (¬ a2 < 0 ∧ (¬ a3 < 0 ∧ (xin a1 (8) ∧ (¬ (I 59 (Int32.toNatClampNeg a1)) < a3 ∧ (xin a1 (8) ∧ ¬ ((I 59 (Int32.toNatClampNeg a1)) - a3) < a2))))))
theorem s_X2_hasElements {I : xI} {L : xL} {z : Bool × Bool × Nat} {a1 : Int32} {a2 : Int32} {a3 : Int32} : xCd 2 43 [.ref 57, .int a1, .int a2, .int a3] (xS I L z) (fun r τ => r = some (.int (if p_X2_hasElements I L a1 a2 a3 then 1 else 0)) ∧ τ = xS I L z) := by
  by_cases hp : p_X2_hasElements I L a1 a2 a3
  · rw [if_pos hp]
    refine c_X2_hasElements ?_
    try simp only [p_X2_hasElements, p_X2_hasRow] at *
    dsimp only
    repeat' split
    all_goals first | exact ⟨rfl, rfl⟩ | (exfalso; simp_all; done) | (exfalso; simp only [xin_iff, Int32.lt_iff_toInt_lt] at *; simp at *; omega) | grind
  · rw [if_neg hp]
    refine c_X2_hasElements ?_
    try simp only [p_X2_hasElements, p_X2_hasRow] at *
    dsimp only
    repeat' split
    all_goals first | exact ⟨rfl, rfl⟩ | (exfalso; simp_all; done) | (exfalso; simp only [xin_iff, Int32.lt_iff_toInt_lt] at *; simp at *; omega) | grind
theorem c_X2_putTeller {F : xQ} {I : xI} {L : xL} {z : Bool × Bool × Nat} {a1 : Int32} {a2 : Int32} (h : (if p_X2_isShelf I L a1 then (if a2 = (-1 : Int32) then (if xin a1 (8) then F none (xS (xw I 58 (Int32.toNatClampNeg a1) (-1 : Int32)) L z) else False) else (if xin a1 (8) then F none (xS (xw I 58 (Int32.toNatClampNeg a1) (10 + a2)) L z) else False)) else F none (xS I L z))) : xCd 2 45 [.ref 57, .int a1, .int a2] (xS I L z) F := by
  have hd : 1 ≤ 1 := Nat.le_refl _
  exact xin_ (T := k_X2_putTeller) (rt := 0) (ls := [some (.ref 57), some (.int a1), some (.int a2)]) rfl rfl rfl rfl (xgo b_X2_putTeller_0 (xuse1 s_X2_isShelf (Nat.le_trans (by decide) hd) (xgo b_X2_putTeller_4 (xiteB (fun c67 h67 => h67) (fun c67 h67 => h67) h))))
theorem c_X2_cutTo {F : xQ} {I : xI} {L : xL} {z : Bool × Bool × Nat} {a0 : Int32} {a1 : Int64} (h : (if a0 = 0 then F (some (.long (Int32.toInt64 ((Int32.toInt8 (Int64.toInt32 a1)).toInt32)))) (xS I L z) else (if a0 = 1 then F (some (.long (Int32.toInt64 ((Int32.toInt16 (Int64.toInt32 a1)).toInt32)))) (xS I L z) else (if a0 = 2 then F (some (.long (Int32.toInt64 (Int64.toInt32 a1)))) (xS I L z) else (if a0 = 3 then F (some (.long a1)) (xS I L z) else (if (if a1 < (Int64.ofNat 0) then -1 else if a1 = (Int64.ofNat 0) then 0 else 1 : Int32) = 0 then F (some (.long (Int64.ofNat 0))) (xS I L z) else F (some (.long (Int64.ofNat 1))) (xS I L z))))))) : xCd 1 47 [.int a0, .long a1] (xS I L z) F := by
  have hd : 0 ≤ 0 := Nat.le_refl _
  exact xin_ (T := k_X2_cutTo) (rt := 3) (ls := [some (.int a0), some (.long a1), none]) rfl rfl rfl rfl (xgo b_X2_cutTo_0 h)
def f_X2_cutTo (I : xI) (L : xL) (a0 : Int32) (a1 : Int64) : Int64 := (if a0 = 0 then Int32.toInt64 ((Int32.toInt8 (Int64.toInt32 a1)).toInt32) else (if a0 = 1 then Int32.toInt64 ((Int32.toInt16 (Int64.toInt32 a1)).toInt32) else (if a0 = 2 then Int32.toInt64 (Int64.toInt32 a1) else (if a0 = 3 then a1 else (if (if a1 < (Int64.ofNat 0) then -1 else if a1 = (Int64.ofNat 0) then 0 else 1 : Int32) = 0 then Int64.ofNat 0 else Int64.ofNat 1)))))
theorem s_X2_cutTo {I : xI} {L : xL} {z : Bool × Bool × Nat} {a0 : Int32} {a1 : Int64} : xCd 1 47 [.int a0, .long a1] (xS I L z) (fun r τ => r = some (.long (f_X2_cutTo I L a0 a1)) ∧ τ = xS I L z) := by
  unfold f_X2_cutTo
  refine c_X2_cutTo ?_
  skip
  dsimp only
  repeat' split
  all_goals first | exact ⟨rfl, rfl⟩ | (exfalso; simp_all; done) | (exfalso; simp only [xin_iff, Int32.lt_iff_toInt_lt] at *; simp at *; omega) | grind
theorem c_X2_elementOf {F : xQ} {I : xI} {L : xL} {z : Bool × Bool × Nat} {a1 : Int32} {a2 : Int32} (h : (if p_X2_hasElement I L a1 a2 then (if xin ((a1 * 40) + a2) (320) then F (some (.long (L 60 (Int32.toNatClampNeg ((a1 * 40) + a2))))) (xS I L z) else False) else F (some (.long (Int64.ofNat 0))) (xS I L z))) : xCd 3 48 [.ref 57, .int a1, .int a2] (xS I L z) F := by
  have hd : 2 ≤ 2 := Nat.le_refl _
  exact xin_ (T := k_X2_elementOf) (rt := 3) (ls := [some (.ref 57), some (.int a1), some (.int a2)]) rfl rfl rfl rfl (xgo b_X2_elementOf_0 (xuse1 s_X2_hasElement (Nat.le_trans (by decide) hd) (xgo b_X2_elementOf_6 (xiteB (fun c76 h76 => h76) (fun c76 h76 => h76) h))))
def f_X2_elementOf (I : xI) (L : xL) (a1 : Int32) (a2 : Int32) : Int64 := (if p_X2_hasElement I L a1 a2 then (if xin ((a1 * 40) + a2) (320) then L 60 (Int32.toNatClampNeg ((a1 * 40) + a2)) else 0) else Int64.ofNat 0)
theorem s_X2_elementOf {I : xI} {L : xL} {z : Bool × Bool × Nat} {a1 : Int32} {a2 : Int32} : xCd 3 48 [.ref 57, .int a1, .int a2] (xS I L z) (fun r τ => r = some (.long (f_X2_elementOf I L a1 a2)) ∧ τ = xS I L z) := by
  unfold f_X2_elementOf
  refine c_X2_elementOf ?_
  try simp only [p_X2_hasElement] at *
  dsimp only
  repeat' split
  all_goals first | exact ⟨rfl, rfl⟩ | (exfalso; simp_all; done) | (exfalso; simp only [xin_iff, Int32.lt_iff_toInt_lt] at *; simp at *; omega) | grind
theorem c_X2_copyElements {F : xQ} {I : xI} {L : xL} {z : Bool × Bool × Nat} {a1 : Int32} {a2 : Int32} {a3 : Int32} {a4 : Int32} {a5 : Int32} (h : (if p_X2_hasElements I L a1 a3 a5 then (if p_X2_hasElements I L a2 a4 a5 then (if xcpOK a5 ((a2 * 40) + a4) ((a1 * 40) + a3) (320) (320) then F none (xS I (xcpl L (60) (Int32.toNatClampNeg ((a1 * 40) + a3)) (60) (Int32.toNatClampNeg ((a2 * 40) + a4)) (Int32.toNatClampNeg a5)) z) else False) else F none (xS I L z)) else F none (xS I L z))) : xCd 3 49 [.ref 57, .int a1, .int a2, .int a3, .int a4, .int a5] (xS I L z) F := by
  have hd : 2 ≤ 2 := Nat.le_refl _
  exact xin_ (T := k_X2_copyElements) (rt := 0) (ls := [some (.ref 57), some (.int a1), some (.int a2), some (.int a3), some (.int a4), some (.int a5)]) rfl rfl rfl rfl (xgo b_X2_copyElements_0 (xuse1 s_X2_hasElements (Nat.le_trans (by decide) hd) (xgo b_X2_copyElements_8 (xiteB (fun c79 h79 => (xuse1 s_X2_hasElements (Nat.le_trans (by decide) hd) (xgo b_X2_copyElements_20 (xiteB (fun c78 h78 => (xite (fun c77 h77 => (xgo b_X2_copyElements_49 h77)) (fun c77 h77 => h77) h78)) (fun c78 h78 => (xgo b_X2_copyElements_49 h78)) h79)))) (fun c79 h79 => (xgo b_X2_copyElements_49 h79)) h))))
theorem c_X3_start {F : xQ} {I : xI} {L : xL} {z : Bool × Bool × Nat}  (h : F none (xS (xw I 44 3 ((I 44 3) + 1)) L z)) : xCd 1 53 [.ref 44] (xS I L z) F := by
  have hd : 0 ≤ 0 := Nat.le_refl _
  exact xin_ (T := k_X3_start) (rt := 0) (ls := [some (.ref 44)]) rfl rfl rfl rfl (xgo b_X3_start_0 h)
theorem c_X4_put {F : xQ} {I : xI} {L : xL} {z : Bool × Bool × Nat} {a1 : Int32} (h : (if (I 61 0) < 0 then F (some (.int 0)) (xS I L z) else (if (I 61 0) < 250 then (if xin (I 61 0) (250) then F (some (.int 1)) (xS (xw (xw I 62 (Int32.toNatClampNeg (I 61 0)) a1) 61 0 (((xw I 62 (Int32.toNatClampNeg (I 61 0)) a1) 61 0) + 1)) L z) else False) else F (some (.int 0)) (xS I L z)))) : xCd 1 56 [.ref 61, .int a1] (xS I L z) F := by
  have hd : 0 ≤ 0 := Nat.le_refl _
  exact xin_ (T := k_X4_put) (rt := 2) (ls := [some (.ref 61), some (.int a1)]) rfl rfl rfl rfl (xgo b_X4_put_0 h)
theorem c_X4_byteAt {F : xQ} {I : xI} {L : xL} {z : Bool × Bool × Nat} {a1 : Int32} (h : (if a1 < 0 then F (some (.int (-1 : Int32))) (xS I L z) else (if a1 < (I 61 0) then (if a1 < 250 then (if xin a1 (250) then F (some (.int (I 62 (Int32.toNatClampNeg a1)))) (xS I L z) else False) else F (some (.int (-1 : Int32))) (xS I L z)) else F (some (.int (-1 : Int32))) (xS I L z)))) : xCd 1 58 [.ref 61, .int a1] (xS I L z) F := by
  have hd : 0 ≤ 0 := Nat.le_refl _
  exact xin_ (T := k_X4_byteAt) (rt := 1) (ls := [some (.ref 61), some (.int a1)]) rfl rfl rfl rfl (xgo b_X4_byteAt_0 h)
def f_X4_byteAt (I : xI) (L : xL) (a1 : Int32) : Int32 := (if a1 < 0 then (-1 : Int32) else (if a1 < (I 61 0) then (if a1 < 250 then (if xin a1 (250) then I 62 (Int32.toNatClampNeg a1) else 0) else (-1 : Int32)) else (-1 : Int32)))
theorem s_X4_byteAt {I : xI} {L : xL} {z : Bool × Bool × Nat} {a1 : Int32} : xCd 1 58 [.ref 61, .int a1] (xS I L z) (fun r τ => r = some (.int (f_X4_byteAt I L a1)) ∧ τ = xS I L z) := by
  unfold f_X4_byteAt
  refine c_X4_byteAt ?_
  skip
  dsimp only
  repeat' split
  all_goals first | exact ⟨rfl, rfl⟩ | (exfalso; simp_all; done) | (exfalso; simp only [xin_iff, Int32.lt_iff_toInt_lt] at *; simp at *; omega) | grind
theorem c_X4_isLetter {F : xQ} {I : xI} {L : xL} {z : Bool × Bool × Nat} {a0 : Int32} (h : (if a0 < 97 then F (some (.int 0)) (xS I L z) else (if 122 < a0 then F (some (.int 0)) (xS I L z) else F (some (.int 1)) (xS I L z)))) : xCd 1 59 [.int a0] (xS I L z) F := by
  have hd : 0 ≤ 0 := Nat.le_refl _
  exact xin_ (T := k_X4_isLetter) (rt := 2) (ls := [some (.int a0)]) rfl rfl rfl rfl (xgo b_X4_isLetter_0 h)
abbrev p_X4_isLetter (I : xI) (L : xL) (a0 : Int32) : Prop := (¬ a0 < 97 ∧ ¬ 122 < a0)
theorem s_X4_isLetter {I : xI} {L : xL} {z : Bool × Bool × Nat} {a0 : Int32} : xCd 1 59 [.int a0] (xS I L z) (fun r τ => r = some (.int (if p_X4_isLetter I L a0 then 1 else 0)) ∧ τ = xS I L z) := by
  by_cases hp : p_X4_isLetter I L a0
  · rw [if_pos hp]
    refine c_X4_isLetter ?_
    try simp only [p_X4_isLetter] at *
    dsimp only
    repeat' split
    all_goals first | exact ⟨rfl, rfl⟩ | (exfalso; simp_all; done) | (exfalso; simp only [xin_iff, Int32.lt_iff_toInt_lt] at *; simp at *; omega) | grind
  · rw [if_neg hp]
    refine c_X4_isLetter ?_
    try simp only [p_X4_isLetter] at *
    dsimp only
    repeat' split
    all_goals first | exact ⟨rfl, rfl⟩ | (exfalso; simp_all; done) | (exfalso; simp only [xin_iff, Int32.lt_iff_toInt_lt] at *; simp at *; omega) | grind
theorem c_X4_isDigit {F : xQ} {I : xI} {L : xL} {z : Bool × Bool × Nat} {a0 : Int32} (h : (if a0 < 48 then F (some (.int 0)) (xS I L z) else (if 57 < a0 then F (some (.int 0)) (xS I L z) else F (some (.int 1)) (xS I L z)))) : xCd 1 60 [.int a0] (xS I L z) F := by
  have hd : 0 ≤ 0 := Nat.le_refl _
  exact xin_ (T := k_X4_isDigit) (rt := 2) (ls := [some (.int a0)]) rfl rfl rfl rfl (xgo b_X4_isDigit_0 h)
abbrev p_X4_isDigit (I : xI) (L : xL) (a0 : Int32) : Prop := (¬ a0 < 48 ∧ ¬ 57 < a0)
theorem s_X4_isDigit {I : xI} {L : xL} {z : Bool × Bool × Nat} {a0 : Int32} : xCd 1 60 [.int a0] (xS I L z) (fun r τ => r = some (.int (if p_X4_isDigit I L a0 then 1 else 0)) ∧ τ = xS I L z) := by
  by_cases hp : p_X4_isDigit I L a0
  · rw [if_pos hp]
    refine c_X4_isDigit ?_
    try simp only [p_X4_isDigit] at *
    dsimp only
    repeat' split
    all_goals first | exact ⟨rfl, rfl⟩ | (exfalso; simp_all; done) | (exfalso; simp only [xin_iff, Int32.lt_iff_toInt_lt] at *; simp at *; omega) | grind
  · rw [if_neg hp]
    refine c_X4_isDigit ?_
    try simp only [p_X4_isDigit] at *
    dsimp only
    repeat' split
    all_goals first | exact ⟨rfl, rfl⟩ | (exfalso; simp_all; done) | (exfalso; simp only [xin_iff, Int32.lt_iff_toInt_lt] at *; simp at *; omega) | grind
theorem c_X4_failAt {F : xQ} {I : xI} {L : xL} {z : Bool × Bool × Nat} {a1 : Int32} (h : F (some (.int 0)) (xS (xw I 61 1 a1) L z)) : xCd 1 63 [.ref 61, .int a1] (xS I L z) F := by
  have hd : 0 ≤ 0 := Nat.le_refl _
  exact xin_ (T := k_X4_failAt) (rt := 2) (ls := [some (.ref 61), some (.int a1)]) rfl rfl rfl rfl (xgo b_X4_failAt_0 h)
theorem c_X5_isKind {F : xQ} {I : xI} {L : xL} {z : Bool × Bool × Nat} {a0 : Int32} (h : (if a0 < 0 then F (some (.int 0)) (xS I L z) else (if a0 < 6 then F (some (.int 1)) (xS I L z) else F (some (.int 0)) (xS I L z)))) : xCd 1 73 [.int a0] (xS I L z) F := by
  have hd : 0 ≤ 0 := Nat.le_refl _
  exact xin_ (T := k_X5_isKind) (rt := 2) (ls := [some (.int a0)]) rfl rfl rfl rfl (xgo b_X5_isKind_0 h)
abbrev p_X5_isKind (I : xI) (L : xL) (a0 : Int32) : Prop := (¬ a0 < 0 ∧ a0 < 6)
theorem s_X5_isKind {I : xI} {L : xL} {z : Bool × Bool × Nat} {a0 : Int32} : xCd 1 73 [.int a0] (xS I L z) (fun r τ => r = some (.int (if p_X5_isKind I L a0 then 1 else 0)) ∧ τ = xS I L z) := by
  by_cases hp : p_X5_isKind I L a0
  · rw [if_pos hp]
    refine c_X5_isKind ?_
    try simp only [p_X5_isKind] at *
    dsimp only
    repeat' split
    all_goals first | exact ⟨rfl, rfl⟩ | (exfalso; simp_all; done) | (exfalso; simp only [xin_iff, Int32.lt_iff_toInt_lt] at *; simp at *; omega) | grind
  · rw [if_neg hp]
    refine c_X5_isKind ?_
    try simp only [p_X5_isKind] at *
    dsimp only
    repeat' split
    all_goals first | exact ⟨rfl, rfl⟩ | (exfalso; simp_all; done) | (exfalso; simp only [xin_iff, Int32.lt_iff_toInt_lt] at *; simp at *; omega) | grind
theorem c_X6_hasPlace {F : xQ} {I : xI} {L : xL} {z : Bool × Bool × Nat} {a1 : Int32} (h : (if a1 < 0 then F (some (.int 0)) (xS I L z) else (if a1 < (I 10 0) then (if a1 < 6 then F (some (.int 1)) (xS I L z) else F (some (.int 0)) (xS I L z)) else F (some (.int 0)) (xS I L z)))) : xCd 1 82 [.ref 10, .int a1] (xS I L z) F := by
  have hd : 0 ≤ 0 := Nat.le_refl _
  exact xin_ (T := k_X6_hasPlace) (rt := 2) (ls := [some (.ref 10), some (.int a1)]) rfl rfl rfl rfl (xgo b_X6_hasPlace_0 h)
abbrev p_X6_hasPlace (I : xI) (L : xL) (a1 : Int32) : Prop := (¬ a1 < 0 ∧ (a1 < (I 10 0) ∧ a1 < 6))
theorem s_X6_hasPlace {I : xI} {L : xL} {z : Bool × Bool × Nat} {a1 : Int32} : xCd 1 82 [.ref 10, .int a1] (xS I L z) (fun r τ => r = some (.int (if p_X6_hasPlace I L a1 then 1 else 0)) ∧ τ = xS I L z) := by
  by_cases hp : p_X6_hasPlace I L a1
  · rw [if_pos hp]
    refine c_X6_hasPlace ?_
    try simp only [p_X6_hasPlace] at *
    dsimp only
    repeat' split
    all_goals first | exact ⟨rfl, rfl⟩ | (exfalso; simp_all; done) | (exfalso; simp only [xin_iff, Int32.lt_iff_toInt_lt] at *; simp at *; omega) | grind
  · rw [if_neg hp]
    refine c_X6_hasPlace ?_
    try simp only [p_X6_hasPlace] at *
    dsimp only
    repeat' split
    all_goals first | exact ⟨rfl, rfl⟩ | (exfalso; simp_all; done) | (exfalso; simp only [xin_iff, Int32.lt_iff_toInt_lt] at *; simp at *; omega) | grind
theorem c_X6_hasTeller {F : xQ} {I : xI} {L : xL} {z : Bool × Bool × Nat} {a1 : Int32} (h : (if a1 < 0 then F (some (.int 0)) (xS I L z) else (if a1 < (I 10 4) then (if a1 < 4 then F (some (.int 1)) (xS I L z) else F (some (.int 0)) (xS I L z)) else F (some (.int 0)) (xS I L z)))) : xCd 1 83 [.ref 10, .int a1] (xS I L z) F := by
  have hd : 0 ≤ 0 := Nat.le_refl _
  exact xin_ (T := k_X6_hasTeller) (rt := 2) (ls := [some (.ref 10), some (.int a1)]) rfl rfl rfl rfl (xgo b_X6_hasTeller_0 h)
abbrev p_X6_hasTeller (I : xI) (L : xL) (a1 : Int32) : Prop := (¬ a1 < 0 ∧ (a1 < (I 10 4) ∧ a1 < 4))
theorem s_X6_hasTeller {I : xI} {L : xL} {z : Bool × Bool × Nat} {a1 : Int32} : xCd 1 83 [.ref 10, .int a1] (xS I L z) (fun r τ => r = some (.int (if p_X6_hasTeller I L a1 then 1 else 0)) ∧ τ = xS I L z) := by
  by_cases hp : p_X6_hasTeller I L a1
  · rw [if_pos hp]
    refine c_X6_hasTeller ?_
    try simp only [p_X6_hasTeller] at *
    dsimp only
    repeat' split
    all_goals first | exact ⟨rfl, rfl⟩ | (exfalso; simp_all; done) | (exfalso; simp only [xin_iff, Int32.lt_iff_toInt_lt] at *; simp at *; omega) | grind
  · rw [if_neg hp]
    refine c_X6_hasTeller ?_
    try simp only [p_X6_hasTeller] at *
    dsimp only
    repeat' split
    all_goals first | exact ⟨rfl, rfl⟩ | (exfalso; simp_all; done) | (exfalso; simp only [xin_iff, Int32.lt_iff_toInt_lt] at *; simp at *; omega) | grind
theorem c_X6_kindOf {F : xQ} {I : xI} {L : xL} {z : Bool × Bool × Nat} {a1 : Int32} (h : (if p_X6_hasTeller I L a1 then (if xin a1 (4) then F (some (.int (I 17 (Int32.toNatClampNeg a1)))) (xS I L z) else False) else F (some (.int (-1 : Int32))) (xS I L z))) : xCd 2 84 [.ref 10, .int a1] (xS I L z) F := by
  have hd : 1 ≤ 1 := Nat.le_refl _
  exact xin_ (T := k_X6_kindOf) (rt := 1) (ls := [some (.ref 10), some (.int a1)]) rfl rfl rfl rfl (xgo b_X6_kindOf_0 (xuse1 s_X6_hasTeller (Nat.le_trans (by decide) hd) (xgo b_X6_kindOf_5 (xiteB (fun c101 h101 => h101) (fun c101 h101 => h101) h))))
def f_X6_kindOf (I : xI) (L : xL) (a1 : Int32) : Int32 := (if p_X6_hasTeller I L a1 then (if xin a1 (4) then I 17 (Int32.toNatClampNeg a1) else 0) else (-1 : Int32))
theorem s_X6_kindOf {I : xI} {L : xL} {z : Bool × Bool × Nat} {a1 : Int32} : xCd 2 84 [.ref 10, .int a1] (xS I L z) (fun r τ => r = some (.int (f_X6_kindOf I L a1)) ∧ τ = xS I L z) := by
  unfold f_X6_kindOf
  refine c_X6_kindOf ?_
  try simp only [p_X6_hasTeller] at *
  dsimp only
  repeat' split
  all_goals first | exact ⟨rfl, rfl⟩ | (exfalso; simp_all; done) | (exfalso; simp only [xin_iff, Int32.lt_iff_toInt_lt] at *; simp at *; omega) | grind
theorem c_X6_tellerNumberOf {F : xQ} {I : xI} {L : xL} {z : Bool × Bool × Nat} {a1 : Int32} (h : (if p_X6_hasTeller I L a1 then (if xin a1 (4) then F (some (.int (I 18 (Int32.toNatClampNeg a1)))) (xS I L z) else False) else F (some (.int 0)) (xS I L z))) : xCd 2 85 [.ref 10, .int a1] (xS I L z) F := by
  have hd : 1 ≤ 1 := Nat.le_refl _
  exact xin_ (T := k_X6_tellerNumberOf) (rt := 1) (ls := [some (.ref 10), some (.int a1)]) rfl rfl rfl rfl (xgo b_X6_tellerNumberOf_0 (xuse1 s_X6_hasTeller (Nat.le_trans (by decide) hd) (xgo b_X6_tellerNumberOf_5 (xiteB (fun c103 h103 => h103) (fun c103 h103 => h103) h))))
def f_X6_tellerNumberOf (I : xI) (L : xL) (a1 : Int32) : Int32 := (if p_X6_hasTeller I L a1 then (if xin a1 (4) then I 18 (Int32.toNatClampNeg a1) else 0) else 0)
theorem s_X6_tellerNumberOf {I : xI} {L : xL} {z : Bool × Bool × Nat} {a1 : Int32} : xCd 2 85 [.ref 10, .int a1] (xS I L z) (fun r τ => r = some (.int (f_X6_tellerNumberOf I L a1)) ∧ τ = xS I L z) := by
  unfold f_X6_tellerNumberOf
  refine c_X6_tellerNumberOf ?_
  try simp only [p_X6_hasTeller] at *
  dsimp only
  repeat' split
  all_goals first | exact ⟨rfl, rfl⟩ | (exfalso; simp_all; done) | (exfalso; simp only [xin_iff, Int32.lt_iff_toInt_lt] at *; simp at *; omega) | grind
theorem c_X6_addTeller {F : xQ} {I : xI} {L : xL} {z : Bool × Bool × Nat} {a1 : Int32} {a2 : Int32} (h : (if (I 10 4) < 0 then F (some (.int (-1 : Int32))) (xS I L z) else (if (I 10 4) < 4 then (if xin (I 10 4) (4) then (if xin (I 10 4) (4) then F (some (.int (I 10 4))) (xS (xw (xw (xw I 17 (Int32.toNatClampNeg (I 10 4)) a1) 18 (Int32.toNatClampNeg (I 10 4)) a2) 10 4 (((xw (xw I 17 (Int32.toNatClampNeg (I 10 4)) a1) 18 (Int32.toNatClampNeg (I 10 4)) a2) 10 4) + 1)) L z) else False) else False) else F (some (.int (-1 : Int32))) (xS I L z)))) : xCd 1 86 [.ref 10, .int a1, .int a2] (xS I L z) F := by
  have hd : 0 ≤ 0 := Nat.le_refl _
  exact xin_ (T := k_X6_addTeller) (rt := 1) (ls := [some (.ref 10), some (.int a1), some (.int a2), none]) rfl rfl rfl rfl (xgo b_X6_addTeller_0 h)
theorem c_X6_setLaw {F : xQ} {I : xI} {L : xL} {z : Bool × Bool × Nat} {a1 : Int32} (h : F none (xS (xw (xw I 10 1 a1) 10 5 1) L z)) : xCd 1 89 [.ref 10, .int a1] (xS I L z) F := by
  have hd : 0 ≤ 0 := Nat.le_refl _
  exact xin_ (T := k_X6_setLaw) (rt := 0) (ls := [some (.ref 10), some (.int a1)]) rfl rfl rfl rfl (xgo b_X6_setLaw_0 h)
theorem c_X6_setNumber {F : xQ} {I : xI} {L : xL} {z : Bool × Bool × Nat} {a1 : Int32} {a2 : Int32} {a3 : Int32} (h : (if ((a1 * 3) + a2) < 0 then F none (xS (xw I 10 6 1) L z) else (if ((a1 * 3) + a2) < 18 then (if xin ((a1 * 3) + a2) (18) then F none (xS (xw (xw I 13 (Int32.toNatClampNeg ((a1 * 3) + a2)) a3) 10 6 1) L z) else False) else F none (xS (xw I 10 6 1) L z)))) : xCd 1 91 [.ref 10, .int a1, .int a2, .int a3] (xS I L z) F := by
  have hd : 0 ≤ 0 := Nat.le_refl _
  exact xin_ (T := k_X6_setNumber) (rt := 0) (ls := [some (.ref 10), some (.int a1), some (.int a2), some (.int a3), none]) rfl rfl rfl rfl (xgo b_X6_setNumber_0 h)
theorem c_X6_setGuest {F : xQ} {I : xI} {L : xL} {z : Bool × Bool × Nat} {a1 : Int32} {a2 : Int32} {a3 : Int32} (h : (if p_X6_hasPlace I L a1 then (if xin a1 (6) then (if xin a1 (6) then F none (xS (xw (xw I 14 (Int32.toNatClampNeg a1) a2) 15 (Int32.toNatClampNeg a1) a3) L z) else False) else False) else F none (xS I L z))) : xCd 2 92 [.ref 10, .int a1, .int a2, .int a3] (xS I L z) F := by
  have hd : 1 ≤ 1 := Nat.le_refl _
  exact xin_ (T := k_X6_setGuest) (rt := 0) (ls := [some (.ref 10), some (.int a1), some (.int a2), some (.int a3)]) rfl rfl rfl rfl (xgo b_X6_setGuest_0 (xuse1 s_X6_hasPlace (Nat.le_trans (by decide) hd) (xgo b_X6_setGuest_5 (xiteB (fun c113 h113 => h113) (fun c113 h113 => h113) h))))
theorem c_X6_wantOf {F : xQ} {I : xI} {L : xL} {z : Bool × Bool × Nat} {a1 : Int32} (h : (if a1 < 0 then F (some (.int (-1 : Int32))) (xS I L z) else (if a1 < 6 then (if xin a1 (6) then F (some (.int (I 14 (Int32.toNatClampNeg a1)))) (xS I L z) else False) else F (some (.int (-1 : Int32))) (xS I L z)))) : xCd 1 93 [.ref 10, .int a1] (xS I L z) F := by
  have hd : 0 ≤ 0 := Nat.le_refl _
  exact xin_ (T := k_X6_wantOf) (rt := 1) (ls := [some (.ref 10), some (.int a1)]) rfl rfl rfl rfl (xgo b_X6_wantOf_0 h)
def f_X6_wantOf (I : xI) (L : xL) (a1 : Int32) : Int32 := (if a1 < 0 then (-1 : Int32) else (if a1 < 6 then (if xin a1 (6) then I 14 (Int32.toNatClampNeg a1) else 0) else (-1 : Int32)))
theorem s_X6_wantOf {I : xI} {L : xL} {z : Bool × Bool × Nat} {a1 : Int32} : xCd 1 93 [.ref 10, .int a1] (xS I L z) (fun r τ => r = some (.int (f_X6_wantOf I L a1)) ∧ τ = xS I L z) := by
  unfold f_X6_wantOf
  refine c_X6_wantOf ?_
  skip
  dsimp only
  repeat' split
  all_goals first | exact ⟨rfl, rfl⟩ | (exfalso; simp_all; done) | (exfalso; simp only [xin_iff, Int32.lt_iff_toInt_lt] at *; simp at *; omega) | grind
theorem c_X6_mindOf {F : xQ} {I : xI} {L : xL} {z : Bool × Bool × Nat} {a1 : Int32} (h : (if a1 < 0 then F (some (.int 0)) (xS I L z) else (if a1 < 6 then (if xin a1 (6) then F (some (.int (I 15 (Int32.toNatClampNeg a1)))) (xS I L z) else False) else F (some (.int 0)) (xS I L z)))) : xCd 1 94 [.ref 10, .int a1] (xS I L z) F := by
  have hd : 0 ≤ 0 := Nat.le_refl _
  exact xin_ (T := k_X6_mindOf) (rt := 1) (ls := [some (.ref 10), some (.int a1)]) rfl rfl rfl rfl (xgo b_X6_mindOf_0 h)
def f_X6_mindOf (I : xI) (L : xL) (a1 : Int32) : Int32 := (if a1 < 0 then 0 else (if a1 < 6 then (if xin a1 (6) then I 15 (Int32.toNatClampNeg a1) else 0) else 0))
theorem s_X6_mindOf {I : xI} {L : xL} {z : Bool × Bool × Nat} {a1 : Int32} : xCd 1 94 [.ref 10, .int a1] (xS I L z) (fun r τ => r = some (.int (f_X6_mindOf I L a1)) ∧ τ = xS I L z) := by
  unfold f_X6_mindOf
  refine c_X6_mindOf ?_
  skip
  dsimp only
  repeat' split
  all_goals first | exact ⟨rfl, rfl⟩ | (exfalso; simp_all; done) | (exfalso; simp only [xin_iff, Int32.lt_iff_toInt_lt] at *; simp at *; omega) | grind
theorem c_X6_truthAt {F : xQ} {I : xI} {L : xL} {z : Bool × Bool × Nat} {a1 : Int32} (h : (if a1 < 0 then F (some (.int 0)) (xS I L z) else (if a1 < 6 then (if xin a1 (6) then F (some (.int (I 12 (Int32.toNatClampNeg a1)))) (xS I L z) else False) else F (some (.int 0)) (xS I L z)))) : xCd 1 95 [.ref 10, .int a1] (xS I L z) F := by
  have hd : 0 ≤ 0 := Nat.le_refl _
  exact xin_ (T := k_X6_truthAt) (rt := 1) (ls := [some (.ref 10), some (.int a1)]) rfl rfl rfl rfl (xgo b_X6_truthAt_0 h)
def f_X6_truthAt (I : xI) (L : xL) (a1 : Int32) : Int32 := (if a1 < 0 then 0 else (if a1 < 6 then (if xin a1 (6) then I 12 (Int32.toNatClampNeg a1) else 0) else 0))
theorem s_X6_truthAt {I : xI} {L : xL} {z : Bool × Bool × Nat} {a1 : Int32} : xCd 1 95 [.ref 10, .int a1] (xS I L z) (fun r τ => r = some (.int (f_X6_truthAt I L a1)) ∧ τ = xS I L z) := by
  unfold f_X6_truthAt
  refine c_X6_truthAt ?_
  skip
  dsimp only
  repeat' split
  all_goals first | exact ⟨rfl, rfl⟩ | (exfalso; simp_all; done) | (exfalso; simp only [xin_iff, Int32.lt_iff_toInt_lt] at *; simp at *; omega) | grind
theorem c_X6_numberOf {F : xQ} {I : xI} {L : xL} {z : Bool × Bool × Nat} {a1 : Int32} {a2 : Int32} (h : (if a1 = 3 then F (some (.int a2)) (xS I L z) else (if ((a2 * 3) + a1) < 0 then F (some (.int a2)) (xS I L z) else (if ((a2 * 3) + a1) < 18 then (if xin ((a2 * 3) + a1) (18) then F (some (.int (I 13 (Int32.toNatClampNeg ((a2 * 3) + a1))))) (xS I L z) else False) else F (some (.int a2)) (xS I L z))))) : xCd 1 96 [.ref 10, .int a1, .int a2] (xS I L z) F := by
  have hd : 0 ≤ 0 := Nat.le_refl _
  exact xin_ (T := k_X6_numberOf) (rt := 1) (ls := [some (.ref 10), some (.int a1), some (.int a2), none]) rfl rfl rfl rfl (xgo b_X6_numberOf_0 h)
def f_X6_numberOf (I : xI) (L : xL) (a1 : Int32) (a2 : Int32) : Int32 := (if a1 = 3 then a2 else (if ((a2 * 3) + a1) < 0 then a2 else (if ((a2 * 3) + a1) < 18 then (if xin ((a2 * 3) + a1) (18) then I 13 (Int32.toNatClampNeg ((a2 * 3) + a1)) else 0) else a2)))
theorem s_X6_numberOf {I : xI} {L : xL} {z : Bool × Bool × Nat} {a1 : Int32} {a2 : Int32} : xCd 1 96 [.ref 10, .int a1, .int a2] (xS I L z) (fun r τ => r = some (.int (f_X6_numberOf I L a1 a2)) ∧ τ = xS I L z) := by
  unfold f_X6_numberOf
  refine c_X6_numberOf ?_
  skip
  dsimp only
  repeat' split
  all_goals first | exact ⟨rfl, rfl⟩ | (exfalso; simp_all; done) | (exfalso; simp only [xin_iff, Int32.lt_iff_toInt_lt] at *; simp at *; omega) | grind
theorem c_X6_numberInTruth {F : xQ} {I : xI} {L : xL} {z : Bool × Bool × Nat} {a1 : Int32} {a2 : Int32} (h : F (some (.int (f_X6_numberOf I L a2 (f_X6_truthAt I L a1)))) (xS I L z)) : xCd 2 97 [.ref 10, .int a1, .int a2] (xS I L z) F := by
  have hd : 1 ≤ 1 := Nat.le_refl _
  exact xin_ (T := k_X6_numberInTruth) (rt := 1) (ls := [some (.ref 10), some (.int a1), some (.int a2)]) rfl rfl rfl rfl (xgo b_X6_numberInTruth_0 (xuse1 s_X6_truthAt (Nat.le_trans (by decide) hd) (xgo b_X6_numberInTruth_7 (xuse1 s_X6_numberOf (Nat.le_trans (by decide) hd) (xgo b_X6_numberInTruth_10 h)))))
def f_X6_numberInTruth (I : xI) (L : xL) (a1 : Int32) (a2 : Int32) : Int32 := (f_X6_numberOf I L a2 (f_X6_truthAt I L a1))
theorem s_X6_numberInTruth {I : xI} {L : xL} {z : Bool × Bool × Nat} {a1 : Int32} {a2 : Int32} : xCd 2 97 [.ref 10, .int a1, .int a2] (xS I L z) (fun r τ => r = some (.int (f_X6_numberInTruth I L a1 a2)) ∧ τ = xS I L z) := by
  unfold f_X6_numberInTruth
  refine c_X6_numberInTruth ?_
  skip
  dsimp only
  repeat' split
  all_goals first | exact ⟨rfl, rfl⟩ | (exfalso; simp_all; done) | (exfalso; simp only [xin_iff, Int32.lt_iff_toInt_lt] at *; simp at *; omega) | grind
theorem c_X6_placeOfSign {F : xQ} {I : xI} {L : xL} {z : Bool × Bool × Nat} {a1 : Int32} (h : (if a1 < 0 then F (some (.int (-1 : Int32))) (xS I L z) else (if a1 < 24 then (if xin a1 (24) then F (some (.int ((I 16 (Int32.toNatClampNeg a1)) / 40))) (xS I L z) else False) else F (some (.int (-1 : Int32))) (xS I L z)))) : xCd 1 98 [.ref 10, .int a1] (xS I L z) F := by
  have hd : 0 ≤ 0 := Nat.le_refl _
  exact xin_ (T := k_X6_placeOfSign) (rt := 1) (ls := [some (.ref 10), some (.int a1)]) rfl rfl rfl rfl (xgo b_X6_placeOfSign_0 h)
def f_X6_placeOfSign (I : xI) (L : xL) (a1 : Int32) : Int32 := (if a1 < 0 then (-1 : Int32) else (if a1 < 24 then (if xin a1 (24) then (I 16 (Int32.toNatClampNeg a1)) / 40 else 0) else (-1 : Int32)))
theorem s_X6_placeOfSign {I : xI} {L : xL} {z : Bool × Bool × Nat} {a1 : Int32} : xCd 1 98 [.ref 10, .int a1] (xS I L z) (fun r τ => r = some (.int (f_X6_placeOfSign I L a1)) ∧ τ = xS I L z) := by
  unfold f_X6_placeOfSign
  refine c_X6_placeOfSign ?_
  skip
  dsimp only
  repeat' split
  all_goals first | exact ⟨rfl, rfl⟩ | (exfalso; simp_all; done) | (exfalso; simp only [xin_iff, Int32.lt_iff_toInt_lt] at *; simp at *; omega) | grind
theorem c_X6_dropSigns {F : xQ} {I : xI} {L : xL} {z : Bool × Bool × Nat}  (h : F none (xS (xw (xw I 10 3 0) 10 6 1) L z)) : xCd 1 101 [.ref 10] (xS I L z) F := by
  have hd : 0 ≤ 0 := Nat.le_refl _
  exact xin_ (T := k_X6_dropSigns) (rt := 0) (ls := [some (.ref 10)]) rfl rfl rfl rfl (xgo b_X6_dropSigns_0 h)
theorem c_X6_pouredAndTurned {F : xQ} {I : xI} {L : xL} {z : Bool × Bool × Nat} {a1 : Int32} {a2 : Int32} (h : (if a1 < a2 then (if ((a1 - a2) + (I 10 0)) < 0 then F (some (.int 0)) (xS I L z) else (if ((a1 - a2) + (I 10 0)) < 6 then (if xin ((a1 - a2) + (I 10 0)) (6) then F (some (.int (I 11 (Int32.toNatClampNeg ((a1 - a2) + (I 10 0)))))) (xS I L z) else False) else F (some (.int 0)) (xS I L z))) else (if (a1 - a2) < 0 then F (some (.int 0)) (xS I L z) else (if (a1 - a2) < 6 then (if xin (a1 - a2) (6) then F (some (.int (I 11 (Int32.toNatClampNeg (a1 - a2))))) (xS I L z) else False) else F (some (.int 0)) (xS I L z))))) : xCd 1 105 [.ref 10, .int a1, .int a2] (xS I L z) F := by
  have hd : 0 ≤ 0 := Nat.le_refl _
  exact xin_ (T := k_X6_pouredAndTurned) (rt := 1) (ls := [some (.ref 10), some (.int a1), some (.int a2), none]) rfl rfl rfl rfl (xgo b_X6_pouredAndTurned_0 (xite (fun c136 h136 => (xgo b_X6_pouredAndTurned_19 h136)) (fun c136 h136 => (xgo b_X6_pouredAndTurned_19 h136)) h))
def f_X6_pouredAndTurned (I : xI) (L : xL) (a1 : Int32) (a2 : Int32) : Int32 := (if a1 < a2 then (if ((a1 - a2) + (I 10 0)) < 0 then 0 else (if ((a1 - a2) + (I 10 0)) < 6 then (if xin ((a1 - a2) + (I 10 0)) (6) then I 11 (Int32.toNatClampNeg ((a1 - a2) + (I 10 0))) else 0) else 0)) else (if (a1 - a2) < 0 then 0 else (if (a1 - a2) < 6 then (if xin (a1 - a2) (6) then I 11 (Int32.toNatClampNeg (a1 - a2)) else 0) else 0)))
theorem s_X6_pouredAndTurned {I : xI} {L : xL} {z : Bool × Bool × Nat} {a1 : Int32} {a2 : Int32} : xCd 1 105 [.ref 10, .int a1, .int a2] (xS I L z) (fun r τ => r = some (.int (f_X6_pouredAndTurned I L a1 a2)) ∧ τ = xS I L z) := by
  unfold f_X6_pouredAndTurned
  refine c_X6_pouredAndTurned ?_
  skip
  dsimp only
  repeat' split
  all_goals first | exact ⟨rfl, rfl⟩ | (exfalso; simp_all; done) | (exfalso; simp only [xin_iff, Int32.lt_iff_toInt_lt] at *; simp at *; omega) | grind
theorem c_X6_draw {F : xQ} {I : xI} {L : xL} {z : Bool × Bool × Nat} {a1 : Int32} (h : (if 0 < a1 then (if a1 = 0 then False else F (some (.int (((Int32.toUInt32 ((xw I 10 2 (((I 10 2) * 1103515245) + 12345)) 10 2) >>> (Int32.toUInt32 16 &&& Int32.toUInt32 31)).toInt32) - ((Int32.toUInt32 ((xw I 10 2 (((I 10 2) * 1103515245) + 12345)) 10 2) >>> (Int32.toUInt32 16 &&& Int32.toUInt32 31)).toInt32) / a1 * a1))) (xS (xw I 10 2 (((I 10 2) * 1103515245) + 12345)) L z)) else F (some (.int 0)) (xS (xw I 10 2 (((I 10 2) * 1103515245) + 12345)) L z))) : xCd 1 108 [.ref 10, .int a1] (xS I L z) F := by
  have hd : 0 ≤ 0 := Nat.le_refl _
  exact xin_ (T := k_X6_draw) (rt := 1) (ls := [some (.ref 10), some (.int a1)]) rfl rfl rfl rfl (xgo b_X6_draw_0 h)
theorem c_X6_signFor {F : xQ} {I : xI} {L : xL} {z : Bool × Bool × Nat} {a0 : Int32} {a1 : Int32} {a2 : Int32} (h : F (some (.int ((((a0 * 4) + a1) * 10) + a2))) (xS I L z)) : xCd 1 109 [.int a0, .int a1, .int a2] (xS I L z) F := by
  have hd : 0 ≤ 0 := Nat.le_refl _
  exact xin_ (T := k_X6_signFor) (rt := 1) (ls := [some (.int a0), some (.int a1), some (.int a2)]) rfl rfl rfl rfl (xgo b_X6_signFor_0 h)
def f_X6_signFor (I : xI) (L : xL) (a0 : Int32) (a1 : Int32) (a2 : Int32) : Int32 := (((a0 * 4) + a1) * 10) + a2
theorem s_X6_signFor {I : xI} {L : xL} {z : Bool × Bool × Nat} {a0 : Int32} {a1 : Int32} {a2 : Int32} : xCd 1 109 [.int a0, .int a1, .int a2] (xS I L z) (fun r τ => r = some (.int (f_X6_signFor I L a0 a1 a2)) ∧ τ = xS I L z) := by
  unfold f_X6_signFor
  refine c_X6_signFor ?_
  skip
  dsimp only
  repeat' split
  all_goals first | exact ⟨rfl, rfl⟩ | (exfalso; simp_all; done) | (exfalso; simp only [xin_iff, Int32.lt_iff_toInt_lt] at *; simp at *; omega) | grind
theorem c_X7_sortAt {F : xQ} {I : xI} {L : xL} {z : Bool × Bool × Nat} {a0 : Int32} {a1 : Int32} (h : (if a1 < 0 then F (some (.int 0)) (xS I L z) else (if a1 < 6 then (if xin a1 (6) then F (some (.int ((a0 >>> ((I 2 (Int32.toNatClampNeg a1)) &&& 31)) &&& 7))) (xS I L z) else False) else F (some (.int 0)) (xS I L z)))) : xCd 1 111 [.int a0, .int a1] (xS I L z) F := by
  have hd : 0 ≤ 0 := Nat.le_refl _
  exact xin_ (T := k_X7_sortAt) (rt := 1) (ls := [some (.int a0), some (.int a1)]) rfl rfl rfl rfl (xgo b_X7_sortAt_0 h)
def f_X7_sortAt (I : xI) (L : xL) (a0 : Int32) (a1 : Int32) : Int32 := (if a1 < 0 then 0 else (if a1 < 6 then (if xin a1 (6) then (a0 >>> ((I 2 (Int32.toNatClampNeg a1)) &&& 31)) &&& 7 else 0) else 0))
theorem s_X7_sortAt {I : xI} {L : xL} {z : Bool × Bool × Nat} {a0 : Int32} {a1 : Int32} : xCd 1 111 [.int a0, .int a1] (xS I L z) (fun r τ => r = some (.int (f_X7_sortAt I L a0 a1)) ∧ τ = xS I L z) := by
  unfold f_X7_sortAt
  refine c_X7_sortAt ?_
  skip
  dsimp only
  repeat' split
  all_goals first | exact ⟨rfl, rfl⟩ | (exfalso; simp_all; done) | (exfalso; simp only [xin_iff, Int32.lt_iff_toInt_lt] at *; simp at *; omega) | grind
theorem c_X7_putAt {F : xQ} {I : xI} {L : xL} {z : Bool × Bool × Nat} {a0 : Int32} {a1 : Int32} (h : (if a1 < 0 then F (some (.int 0)) (xS I L z) else (if a1 < 6 then (if xin a1 (6) then F (some (.int (a0 <<< ((I 2 (Int32.toNatClampNeg a1)) &&& 31)))) (xS I L z) else False) else F (some (.int 0)) (xS I L z)))) : xCd 1 112 [.int a0, .int a1] (xS I L z) F := by
  have hd : 0 ≤ 0 := Nat.le_refl _
  exact xin_ (T := k_X7_putAt) (rt := 1) (ls := [some (.int a0), some (.int a1)]) rfl rfl rfl rfl (xgo b_X7_putAt_0 h)
def f_X7_putAt (I : xI) (L : xL) (a0 : Int32) (a1 : Int32) : Int32 := (if a1 < 0 then 0 else (if a1 < 6 then (if xin a1 (6) then a0 <<< ((I 2 (Int32.toNatClampNeg a1)) &&& 31) else 0) else 0))
theorem s_X7_putAt {I : xI} {L : xL} {z : Bool × Bool × Nat} {a0 : Int32} {a1 : Int32} : xCd 1 112 [.int a0, .int a1] (xS I L z) (fun r τ => r = some (.int (f_X7_putAt I L a0 a1)) ∧ τ = xS I L z) := by
  unfold f_X7_putAt
  refine c_X7_putAt ?_
  skip
  dsimp only
  repeat' split
  all_goals first | exact ⟨rfl, rfl⟩ | (exfalso; simp_all; done) | (exfalso; simp only [xin_iff, Int32.lt_iff_toInt_lt] at *; simp at *; omega) | grind
theorem c_X7_worldOf {F : xQ} {I : xI} {L : xL} {z : Bool × Bool × Nat} {a1 : Int32} (h : (if a1 < 0 then F (some (.int 0)) (xS I L z) else (if a1 < (I 37 0) then (if a1 < 720 then (if xin a1 (720) then F (some (.int (I 38 (Int32.toNatClampNeg a1)))) (xS I L z) else False) else F (some (.int 0)) (xS I L z)) else F (some (.int 0)) (xS I L z)))) : xCd 1 122 [.ref 37, .int a1] (xS I L z) F := by
  have hd : 0 ≤ 0 := Nat.le_refl _
  exact xin_ (T := k_X7_worldOf) (rt := 1) (ls := [some (.ref 37), some (.int a1)]) rfl rfl rfl rfl (xgo b_X7_worldOf_0 h)
def f_X7_worldOf (I : xI) (L : xL) (a1 : Int32) : Int32 := (if a1 < 0 then 0 else (if a1 < (I 37 0) then (if a1 < 720 then (if xin a1 (720) then I 38 (Int32.toNatClampNeg a1) else 0) else 0) else 0))
theorem s_X7_worldOf {I : xI} {L : xL} {z : Bool × Bool × Nat} {a1 : Int32} : xCd 1 122 [.ref 37, .int a1] (xS I L z) (fun r τ => r = some (.int (f_X7_worldOf I L a1)) ∧ τ = xS I L z) := by
  unfold f_X7_worldOf
  refine c_X7_worldOf ?_
  skip
  dsimp only
  repeat' split
  all_goals first | exact ⟨rfl, rfl⟩ | (exfalso; simp_all; done) | (exfalso; simp only [xin_iff, Int32.lt_iff_toInt_lt] at *; simp at *; omega) | grind
theorem c_X7_possibleOf {F : xQ} {I : xI} {L : xL} {z : Bool × Bool × Nat} {a1 : Int32} (h : (if a1 < 0 then F (some (.int 0)) (xS I L z) else (if a1 < (I 37 1) then (if a1 < 720 then (if xin a1 (720) then F (some (.int (I 39 (Int32.toNatClampNeg a1)))) (xS I L z) else False) else F (some (.int 0)) (xS I L z)) else F (some (.int 0)) (xS I L z)))) : xCd 1 123 [.ref 37, .int a1] (xS I L z) F := by
  have hd : 0 ≤ 0 := Nat.le_refl _
  exact xin_ (T := k_X7_possibleOf) (rt := 1) (ls := [some (.ref 37), some (.int a1)]) rfl rfl rfl rfl (xgo b_X7_possibleOf_0 h)
def f_X7_possibleOf (I : xI) (L : xL) (a1 : Int32) : Int32 := (if a1 < 0 then 0 else (if a1 < (I 37 1) then (if a1 < 720 then (if xin a1 (720) then I 39 (Int32.toNatClampNeg a1) else 0) else 0) else 0))
theorem s_X7_possibleOf {I : xI} {L : xL} {z : Bool × Bool × Nat} {a1 : Int32} : xCd 1 123 [.ref 37, .int a1] (xS I L z) (fun r τ => r = some (.int (f_X7_possibleOf I L a1)) ∧ τ = xS I L z) := by
  unfold f_X7_possibleOf
  refine c_X7_possibleOf ?_
  skip
  dsimp only
  repeat' split
  all_goals first | exact ⟨rfl, rfl⟩ | (exfalso; simp_all; done) | (exfalso; simp only [xin_iff, Int32.lt_iff_toInt_lt] at *; simp at *; omega) | grind
theorem c_X7_howManyStand {F : xQ} {I : xI} {L : xL} {z : Bool × Bool × Nat} {a1 : Int32} {a2 : Int32} (h : (if ((a1 * 8) + a2) < 0 then F (some (.int 0)) (xS I L z) else (if ((a1 * 8) + a2) < 48 then (if xin ((a1 * 8) + a2) (48) then F (some (.int (I 40 (Int32.toNatClampNeg ((a1 * 8) + a2))))) (xS I L z) else False) else F (some (.int 0)) (xS I L z)))) : xCd 1 125 [.ref 37, .int a1, .int a2] (xS I L z) F := by
  have hd : 0 ≤ 0 := Nat.le_refl _
  exact xin_ (T := k_X7_howManyStand) (rt := 1) (ls := [some (.ref 37), some (.int a1), some (.int a2), none]) rfl rfl rfl rfl (xgo b_X7_howManyStand_0 h)
def f_X7_howManyStand (I : xI) (L : xL) (a1 : Int32) (a2 : Int32) : Int32 := (if ((a1 * 8) + a2) < 0 then 0 else (if ((a1 * 8) + a2) < 48 then (if xin ((a1 * 8) + a2) (48) then I 40 (Int32.toNatClampNeg ((a1 * 8) + a2)) else 0) else 0))
theorem s_X7_howManyStand {I : xI} {L : xL} {z : Bool × Bool × Nat} {a1 : Int32} {a2 : Int32} : xCd 1 125 [.ref 37, .int a1, .int a2] (xS I L z) (fun r τ => r = some (.int (f_X7_howManyStand I L a1 a2)) ∧ τ = xS I L z) := by
  unfold f_X7_howManyStand
  refine c_X7_howManyStand ?_
  skip
  dsimp only
  repeat' split
  all_goals first | exact ⟨rfl, rfl⟩ | (exfalso; simp_all; done) | (exfalso; simp only [xin_iff, Int32.lt_iff_toInt_lt] at *; simp at *; omega) | grind
theorem c_X8_element {F : xQ} {I : xI} {L : xL} {z : Bool × Bool × Nat} {a1 : Int32} {a2 : Int32} (h : F (some (.long (f_X2_elementOf I L a1 a2))) (xS I L z)) : xCd 4 136 [.ref 9, .int a1, .int a2] (xS I L z) F := by
  have hd : 3 ≤ 3 := Nat.le_refl _
  exact xin_ (T := k_X8_element) (rt := 3) (ls := [some (.ref 9), some (.int a1), some (.int a2)]) rfl rfl rfl rfl (xgo b_X8_element_0 (xuse1 s_X2_elementOf (Nat.le_trans (by decide) hd) (xgo b_X8_element_9 h)))
def f_X8_element (I : xI) (L : xL) (a1 : Int32) (a2 : Int32) : Int64 := (f_X2_elementOf I L a1 a2)
theorem s_X8_element {I : xI} {L : xL} {z : Bool × Bool × Nat} {a1 : Int32} {a2 : Int32} : xCd 4 136 [.ref 9, .int a1, .int a2] (xS I L z) (fun r τ => r = some (.long (f_X8_element I L a1 a2)) ∧ τ = xS I L z) := by
  unfold f_X8_element
  refine c_X8_element ?_
  skip
  dsimp only
  repeat' split
  all_goals first | exact ⟨rfl, rfl⟩ | (exfalso; simp_all; done) | (exfalso; simp only [xin_iff, Int32.lt_iff_toInt_lt] at *; simp at *; omega) | grind
theorem c_X8_holds {F : xQ} {I : xI} {L : xL} {z : Bool × Bool × Nat} {a1 : Int32} (h : F (some (.int (f_X2_thingOf I L a1))) (xS I L z)) : xCd 3 137 [.ref 9, .int a1] (xS I L z) F := by
  have hd : 2 ≤ 2 := Nat.le_refl _
  exact xin_ (T := k_X8_holds) (rt := 1) (ls := [some (.ref 9), some (.int a1)]) rfl rfl rfl rfl (xgo b_X8_holds_0 (xuse1 s_X2_thingOf (Nat.le_trans (by decide) hd) (xgo b_X8_holds_8 h)))
def f_X8_holds (I : xI) (L : xL) (a1 : Int32) : Int32 := (f_X2_thingOf I L a1)
theorem s_X8_holds {I : xI} {L : xL} {z : Bool × Bool × Nat} {a1 : Int32} : xCd 3 137 [.ref 9, .int a1] (xS I L z) (fun r τ => r = some (.int (f_X8_holds I L a1)) ∧ τ = xS I L z) := by
  unfold f_X8_holds
  refine c_X8_holds ?_
  skip
  dsimp only
  repeat' split
  all_goals first | exact ⟨rfl, rfl⟩ | (exfalso; simp_all; done) | (exfalso; simp only [xin_iff, Int32.lt_iff_toInt_lt] at *; simp at *; omega) | grind
theorem c_X8_forget {F : xQ} {I : xI} {L : xL} {z : Bool × Bool × Nat}  (h : F (some (.int (I 10 3))) (xS (xw (xw I 10 3 0) 10 6 1) L z)) : xCd 2 147 [.ref 9] (xS I L z) F := by
  have hd : 1 ≤ 1 := Nat.le_refl _
  exact xin_ (T := k_X8_forget) (rt := 1) (ls := [some (.ref 9), none]) rfl rfl rfl rfl (xgo b_X8_forget_0 (xupD (c_X6_dropSigns (xgo b_X8_forget_15 h)) (Nat.le_trans (by decide) hd)))
theorem c_X8_wipe {F : xQ} {I : xI} {L : xL} {z : Bool × Bool × Nat}  (h : F (some (.int (I 61 0))) (xS (xw I 61 0 0) L z)) : xCd 1 149 [.ref 9] (xS I L z) F := by
  have hd : 0 ≤ 0 := Nat.le_refl _
  exact xin_ (T := k_X8_wipe) (rt := 1) (ls := [some (.ref 9), none]) rfl rfl rfl rfl (xgo b_X8_wipe_0 h)
theorem c_X8_seed {F : xQ} {I : xI} {L : xL} {z : Bool × Bool × Nat} {a1 : Int32} (h : F (some (.int (I 10 2))) (xS (xw I 10 2 a1) L z)) : xCd 1 173 [.ref 9, .int a1] (xS I L z) F := by
  have hd : 0 ≤ 0 := Nat.le_refl _
  exact xin_ (T := k_X8_seed) (rt := 1) (ls := [some (.ref 9), some (.int a1), none]) rfl rfl rfl rfl (xgo b_X8_seed_0 h)
theorem c_X8_refuse {F : xQ} {I : xI} {L : xL} {z : Bool × Bool × Nat} {a1 : Int32} (h : (if ((-2 : Int32) - a1) < 0 then F (some (.int a1)) (xS I L z) else (if ((-2 : Int32) - a1) < 5 then (if xin ((-2 : Int32) - a1) (5) then (if xin ((-2 : Int32) - a1) (5) then F (some (.int a1)) (xS (xw I 65 (Int32.toNatClampNeg ((-2 : Int32) - a1)) ((I 65 (Int32.toNatClampNeg ((-2 : Int32) - a1))) + 1)) L z) else False) else False) else F (some (.int a1)) (xS I L z)))) : xCd 1 177 [.ref 9, .int a1] (xS I L z) F := by
  have hd : 0 ≤ 0 := Nat.le_refl _
  exact xin_ (T := k_X8_refuse) (rt := 1) (ls := [some (.ref 9), some (.int a1), none]) rfl rfl rfl rfl (xgo b_X8_refuse_0 (xgo b_X8_refuse_5 (xite (fun c235 h235 => h235) (fun c235 h235 => (xite (fun c234 h234 => (xgo b_X8_refuse_18 h234)) (fun c234 h234 => h234) h235)) h)))
theorem c_X8_isSort {F : xQ} {I : xI} {L : xL} {z : Bool × Bool × Nat} {a0 : Int32} (h : (if a0 < 0 then F (some (.int 0)) (xS I L z) else (if a0 < 6 then F (some (.int 1)) (xS I L z) else F (some (.int 0)) (xS I L z)))) : xCd 1 180 [.int a0] (xS I L z) F := by
  have hd : 0 ≤ 0 := Nat.le_refl _
  exact xin_ (T := k_X8_isSort) (rt := 2) (ls := [some (.int a0)]) rfl rfl rfl rfl (xgo b_X8_isSort_0 h)
abbrev p_X8_isSort (I : xI) (L : xL) (a0 : Int32) : Prop := (¬ a0 < 0 ∧ a0 < 6)
theorem s_X8_isSort {I : xI} {L : xL} {z : Bool × Bool × Nat} {a0 : Int32} : xCd 1 180 [.int a0] (xS I L z) (fun r τ => r = some (.int (if p_X8_isSort I L a0 then 1 else 0)) ∧ τ = xS I L z) := by
  by_cases hp : p_X8_isSort I L a0
  · rw [if_pos hp]
    refine c_X8_isSort ?_
    try simp only [p_X8_isSort] at *
    dsimp only
    repeat' split
    all_goals first | exact ⟨rfl, rfl⟩ | (exfalso; simp_all; done) | (exfalso; simp only [xin_iff, Int32.lt_iff_toInt_lt] at *; simp at *; omega) | grind
  · rw [if_neg hp]
    refine c_X8_isSort ?_
    try simp only [p_X8_isSort] at *
    dsimp only
    repeat' split
    all_goals first | exact ⟨rfl, rfl⟩ | (exfalso; simp_all; done) | (exfalso; simp only [xin_iff, Int32.lt_iff_toInt_lt] at *; simp at *; omega) | grind
theorem c_X8_isNumber {F : xQ} {I : xI} {L : xL} {z : Bool × Bool × Nat} {a0 : Int32} (h : (if a0 < 0 then F (some (.int 0)) (xS I L z) else (if 9 < a0 then F (some (.int 0)) (xS I L z) else F (some (.int 1)) (xS I L z)))) : xCd 1 181 [.int a0] (xS I L z) F := by
  have hd : 0 ≤ 0 := Nat.le_refl _
  exact xin_ (T := k_X8_isNumber) (rt := 2) (ls := [some (.int a0)]) rfl rfl rfl rfl (xgo b_X8_isNumber_0 h)
abbrev p_X8_isNumber (I : xI) (L : xL) (a0 : Int32) : Prop := (¬ a0 < 0 ∧ ¬ 9 < a0)
theorem s_X8_isNumber {I : xI} {L : xL} {z : Bool × Bool × Nat} {a0 : Int32} : xCd 1 181 [.int a0] (xS I L z) (fun r τ => r = some (.int (if p_X8_isNumber I L a0 then 1 else 0)) ∧ τ = xS I L z) := by
  by_cases hp : p_X8_isNumber I L a0
  · rw [if_pos hp]
    refine c_X8_isNumber ?_
    try simp only [p_X8_isNumber] at *
    dsimp only
    repeat' split
    all_goals first | exact ⟨rfl, rfl⟩ | (exfalso; simp_all; done) | (exfalso; simp only [xin_iff, Int32.lt_iff_toInt_lt] at *; simp at *; omega) | grind
  · rw [if_neg hp]
    refine c_X8_isNumber ?_
    try simp only [p_X8_isNumber] at *
    dsimp only
    repeat' split
    all_goals first | exact ⟨rfl, rfl⟩ | (exfalso; simp_all; done) | (exfalso; simp only [xin_iff, Int32.lt_iff_toInt_lt] at *; simp at *; omega) | grind
theorem c_X8_isLook {F : xQ} {I : xI} {L : xL} {z : Bool × Bool × Nat} {a0 : Int32} (h : (if a0 < 0 then F (some (.int 0)) (xS I L z) else (if a0 < 3 then F (some (.int 1)) (xS I L z) else F (some (.int 0)) (xS I L z)))) : xCd 1 182 [.int a0] (xS I L z) F := by
  have hd : 0 ≤ 0 := Nat.le_refl _
  exact xin_ (T := k_X8_isLook) (rt := 2) (ls := [some (.int a0)]) rfl rfl rfl rfl (xgo b_X8_isLook_0 h)
abbrev p_X8_isLook (I : xI) (L : xL) (a0 : Int32) : Prop := (¬ a0 < 0 ∧ a0 < 3)
theorem s_X8_isLook {I : xI} {L : xL} {z : Bool × Bool × Nat} {a0 : Int32} : xCd 1 182 [.int a0] (xS I L z) (fun r τ => r = some (.int (if p_X8_isLook I L a0 then 1 else 0)) ∧ τ = xS I L z) := by
  by_cases hp : p_X8_isLook I L a0
  · rw [if_pos hp]
    refine c_X8_isLook ?_
    try simp only [p_X8_isLook] at *
    dsimp only
    repeat' split
    all_goals first | exact ⟨rfl, rfl⟩ | (exfalso; simp_all; done) | (exfalso; simp only [xin_iff, Int32.lt_iff_toInt_lt] at *; simp at *; omega) | grind
  · rw [if_neg hp]
    refine c_X8_isLook ?_
    try simp only [p_X8_isLook] at *
    dsimp only
    repeat' split
    all_goals first | exact ⟨rfl, rfl⟩ | (exfalso; simp_all; done) | (exfalso; simp only [xin_iff, Int32.lt_iff_toInt_lt] at *; simp at *; omega) | grind
theorem c_X8_isSignKind {F : xQ} {I : xI} {L : xL} {z : Bool × Bool × Nat} {a0 : Int32} (h : (if a0 < 0 then F (some (.int 0)) (xS I L z) else (if a0 < 4 then F (some (.int 1)) (xS I L z) else F (some (.int 0)) (xS I L z)))) : xCd 1 183 [.int a0] (xS I L z) F := by
  have hd : 0 ≤ 0 := Nat.le_refl _
  exact xin_ (T := k_X8_isSignKind) (rt := 2) (ls := [some (.int a0)]) rfl rfl rfl rfl (xgo b_X8_isSignKind_0 h)
abbrev p_X8_isSignKind (I : xI) (L : xL) (a0 : Int32) : Prop := (¬ a0 < 0 ∧ a0 < 4)
theorem s_X8_isSignKind {I : xI} {L : xL} {z : Bool × Bool × Nat} {a0 : Int32} : xCd 1 183 [.int a0] (xS I L z) (fun r τ => r = some (.int (if p_X8_isSignKind I L a0 then 1 else 0)) ∧ τ = xS I L z) := by
  by_cases hp : p_X8_isSignKind I L a0
  · rw [if_pos hp]
    refine c_X8_isSignKind ?_
    try simp only [p_X8_isSignKind] at *
    dsimp only
    repeat' split
    all_goals first | exact ⟨rfl, rfl⟩ | (exfalso; simp_all; done) | (exfalso; simp only [xin_iff, Int32.lt_iff_toInt_lt] at *; simp at *; omega) | grind
  · rw [if_neg hp]
    refine c_X8_isSignKind ?_
    try simp only [p_X8_isSignKind] at *
    dsimp only
    repeat' split
    all_goals first | exact ⟨rfl, rfl⟩ | (exfalso; simp_all; done) | (exfalso; simp only [xin_iff, Int32.lt_iff_toInt_lt] at *; simp at *; omega) | grind
theorem c_X8_isEither {F : xQ} {I : xI} {L : xL} {z : Bool × Bool × Nat} {a0 : Int32} (h : (if a0 = 0 then F (some (.int 1)) (xS I L z) else (if a0 = 1 then F (some (.int 1)) (xS I L z) else F (some (.int 0)) (xS I L z)))) : xCd 1 184 [.int a0] (xS I L z) F := by
  have hd : 0 ≤ 0 := Nat.le_refl _
  exact xin_ (T := k_X8_isEither) (rt := 2) (ls := [some (.int a0)]) rfl rfl rfl rfl (xgo b_X8_isEither_0 h)
abbrev p_X8_isEither (I : xI) (L : xL) (a0 : Int32) : Prop := (a0 = 0 ∨ a0 = 1)
theorem s_X8_isEither {I : xI} {L : xL} {z : Bool × Bool × Nat} {a0 : Int32} : xCd 1 184 [.int a0] (xS I L z) (fun r τ => r = some (.int (if p_X8_isEither I L a0 then 1 else 0)) ∧ τ = xS I L z) := by
  by_cases hp : p_X8_isEither I L a0
  · rw [if_pos hp]
    refine c_X8_isEither ?_
    try simp only [p_X8_isEither] at *
    dsimp only
    repeat' split
    all_goals first | exact ⟨rfl, rfl⟩ | (exfalso; simp_all; done) | (exfalso; simp only [xin_iff, Int32.lt_iff_toInt_lt] at *; simp at *; omega) | grind
  · rw [if_neg hp]
    refine c_X8_isEither ?_
    try simp only [p_X8_isEither] at *
    dsimp only
    repeat' split
    all_goals first | exact ⟨rfl, rfl⟩ | (exfalso; simp_all; done) | (exfalso; simp only [xin_iff, Int32.lt_iff_toInt_lt] at *; simp at *; omega) | grind
theorem c_X8_canBeSeen {F : xQ} {I : xI} {L : xL} {z : Bool × Bool × Nat} {a0 : Int32} {a1 : Int32} (h : (if a0 = 3 then F (some (.int (if p_X8_isSort I L a1 then 1 else 0))) (xS I L z) else (if p_X8_isLook I L a0 then (if p_X8_isNumber I L a1 then F (some (.int 1)) (xS I L z) else F (some (.int 0)) (xS I L z)) else F (some (.int 0)) (xS I L z)))) : xCd 2 185 [.int a0, .int a1] (xS I L z) F := by
  have hd : 1 ≤ 1 := Nat.le_refl _
  exact xin_ (T := k_X8_canBeSeen) (rt := 2) (ls := [some (.int a0), some (.int a1)]) rfl rfl rfl rfl (xgo b_X8_canBeSeen_0 (xite (fun c248 h248 => (xuse1 s_X8_isSort (Nat.le_trans (by decide) hd) (xgo b_X8_canBeSeen_9 (xbifT xbool_b h248)))) (fun c248 h248 => (xuse1 s_X8_isLook (Nat.le_trans (by decide) hd) (xgo b_X8_canBeSeen_16 (xiteB (fun c247 h247 => (xuse1 s_X8_isNumber (Nat.le_trans (by decide) hd) (xgo b_X8_canBeSeen_23 (xiteB (fun c246 h246 => h246) (fun c246 h246 => h246) h247)))) (fun c247 h247 => h247) h248)))) h))
abbrev p_X8_canBeSeen (I : xI) (L : xL) (a0 : Int32) (a1 : Int32) : Prop := ((a0 = 3 ∧ (p_X8_isSort I L a1)) ∨ (¬ a0 = 3 ∧ (p_X8_isLook I L a0 ∧ p_X8_isNumber I L a1)))
theorem s_X8_canBeSeen {I : xI} {L : xL} {z : Bool × Bool × Nat} {a0 : Int32} {a1 : Int32} : xCd 2 185 [.int a0, .int a1] (xS I L z) (fun r τ => r = some (.int (if p_X8_canBeSeen I L a0 a1 then 1 else 0)) ∧ τ = xS I L z) := by
  by_cases hp : p_X8_canBeSeen I L a0 a1
  · rw [if_pos hp]
    refine c_X8_canBeSeen ?_
    try simp only [p_X8_canBeSeen, p_X8_isLook, p_X8_isNumber, p_X8_isSort] at *
    dsimp only
    repeat' split
    all_goals first | exact ⟨rfl, rfl⟩ | (exfalso; simp_all; done) | (exfalso; simp only [xin_iff, Int32.lt_iff_toInt_lt] at *; simp at *; omega) | grind
  · rw [if_neg hp]
    refine c_X8_canBeSeen ?_
    try simp only [p_X8_canBeSeen, p_X8_isLook, p_X8_isNumber, p_X8_isSort] at *
    dsimp only
    repeat' split
    all_goals first | exact ⟨rfl, rfl⟩ | (exfalso; simp_all; done) | (exfalso; simp only [xin_iff, Int32.lt_iff_toInt_lt] at *; simp at *; omega) | grind
theorem c_X9_refuse {F : xQ} {I : xI} {L : xL} {z : Bool × Bool × Nat} {a1 : Int32} (h : (if xin (-a1) (8) then (if xin (-a1) (8) then F (some (.int a1)) (xS (xw I 82 (Int32.toNatClampNeg (-a1)) ((I 82 (Int32.toNatClampNeg (-a1))) + 1)) L z) else False) else False)) : xCd 1 187 [.ref 66, .int a1] (xS I L z) F := by
  have hd : 0 ≤ 0 := Nat.le_refl _
  exact xin_ (T := k_X9_refuse) (rt := 1) (ls := [some (.ref 66), some (.int a1)]) rfl rfl rfl rfl (xgo b_X9_refuse_0 h)
theorem c_X9_in {F : xQ} {I : xI} {L : xL} {z : Bool × Bool × Nat} {a0 : Int64} {a2 : Int64} {a4 : Int64} (h : (if (if a0 < a2 then -1 else if a0 = a2 then 0 else 1 : Int32) < 0 then F (some (.int 0)) (xS I L z) else (if 0 < (if a0 < a4 then -1 else if a0 = a4 then 0 else 1 : Int32) then F (some (.int 0)) (xS I L z) else F (some (.int 1)) (xS I L z)))) : xCd 1 188 [.long a0, .long a2, .long a4] (xS I L z) F := by
  have hd : 0 ≤ 0 := Nat.le_refl _
  exact xin_ (T := k_X9_in) (rt := 2) (ls := [some (.long a0), none, some (.long a2), none, some (.long a4), none]) rfl rfl rfl rfl (xgo b_X9_in_0 h)
abbrev p_X9_in (I : xI) (L : xL) (a0 : Int64) (a2 : Int64) (a4 : Int64) : Prop := (¬ (if a0 < a2 then -1 else if a0 = a2 then 0 else 1 : Int32) < 0 ∧ ¬ 0 < (if a0 < a4 then -1 else if a0 = a4 then 0 else 1 : Int32))
theorem s_X9_in {I : xI} {L : xL} {z : Bool × Bool × Nat} {a0 : Int64} {a2 : Int64} {a4 : Int64} : xCd 1 188 [.long a0, .long a2, .long a4] (xS I L z) (fun r τ => r = some (.int (if p_X9_in I L a0 a2 a4 then 1 else 0)) ∧ τ = xS I L z) := by
  by_cases hp : p_X9_in I L a0 a2 a4
  · rw [if_pos hp]
    refine c_X9_in ?_
    try simp only [p_X9_in] at *
    dsimp only
    repeat' split
    all_goals first | exact ⟨rfl, rfl⟩ | (exfalso; simp_all; done) | (exfalso; simp only [xin_iff, Int32.lt_iff_toInt_lt] at *; simp at *; omega) | grind
  · rw [if_neg hp]
    refine c_X9_in ?_
    try simp only [p_X9_in] at *
    dsimp only
    repeat' split
    all_goals first | exact ⟨rfl, rfl⟩ | (exfalso; simp_all; done) | (exfalso; simp only [xin_iff, Int32.lt_iff_toInt_lt] at *; simp at *; omega) | grind
theorem c_X9_isPlace {F : xQ} {I : xI} {L : xL} {z : Bool × Bool × Nat} {a1 : Int64} (h : F (some (.int (if p_X9_in I L a1 (Int64.ofNat 0) (Int32.toInt64 ((I 66 9) - 1)) then 1 else 0))) (xS I L z)) : xCd 2 189 [.ref 66, .long a1] (xS I L z) F := by
  have hd : 1 ≤ 1 := Nat.le_refl _
  exact xin_ (T := k_X9_isPlace) (rt := 2) (ls := [some (.ref 66), some (.long a1), none]) rfl rfl rfl rfl (xgo b_X9_isPlace_0 (xuse1 s_X9_in (Nat.le_trans (by decide) hd) (xgo b_X9_isPlace_12 (xbifT xbool_b h))))
abbrev p_X9_isPlace (I : xI) (L : xL) (a1 : Int64) : Prop := (p_X9_in I L a1 (Int64.ofNat 0) (Int32.toInt64 ((I 66 9) - 1)))
theorem s_X9_isPlace {I : xI} {L : xL} {z : Bool × Bool × Nat} {a1 : Int64} : xCd 2 189 [.ref 66, .long a1] (xS I L z) (fun r τ => r = some (.int (if p_X9_isPlace I L a1 then 1 else 0)) ∧ τ = xS I L z) := by
  by_cases hp : p_X9_isPlace I L a1
  · rw [if_pos hp]
    refine c_X9_isPlace ?_
    try simp only [p_X9_isPlace, p_X9_in] at *
    dsimp only
    repeat' split
    all_goals first | exact ⟨rfl, rfl⟩ | (exfalso; simp_all; done) | (exfalso; simp only [xin_iff, Int32.lt_iff_toInt_lt] at *; simp at *; omega) | grind
  · rw [if_neg hp]
    refine c_X9_isPlace ?_
    try simp only [p_X9_isPlace, p_X9_in] at *
    dsimp only
    repeat' split
    all_goals first | exact ⟨rfl, rfl⟩ | (exfalso; simp_all; done) | (exfalso; simp only [xin_iff, Int32.lt_iff_toInt_lt] at *; simp at *; omega) | grind
theorem c_X9_isTeller {F : xQ} {I : xI} {L : xL} {z : Bool × Bool × Nat} {a1 : Int32} (h : F (some (.int (if p_X9_in I L (Int32.toInt64 a1) (Int64.ofNat 0) (Int32.toInt64 ((I 66 17) - 1)) then 1 else 0))) (xS I L z)) : xCd 2 190 [.ref 66, .int a1] (xS I L z) F := by
  have hd : 1 ≤ 1 := Nat.le_refl _
  exact xin_ (T := k_X9_isTeller) (rt := 2) (ls := [some (.ref 66), some (.int a1)]) rfl rfl rfl rfl (xgo b_X9_isTeller_0 (xuse1 s_X9_in (Nat.le_trans (by decide) hd) (xgo b_X9_isTeller_13 (xbifT xbool_b h))))
abbrev p_X9_isTeller (I : xI) (L : xL) (a1 : Int32) : Prop := (p_X9_in I L (Int32.toInt64 a1) (Int64.ofNat 0) (Int32.toInt64 ((I 66 17) - 1)))
theorem s_X9_isTeller {I : xI} {L : xL} {z : Bool × Bool × Nat} {a1 : Int32} : xCd 2 190 [.ref 66, .int a1] (xS I L z) (fun r τ => r = some (.int (if p_X9_isTeller I L a1 then 1 else 0)) ∧ τ = xS I L z) := by
  by_cases hp : p_X9_isTeller I L a1
  · rw [if_pos hp]
    refine c_X9_isTeller ?_
    try simp only [p_X9_isTeller, p_X9_in] at *
    dsimp only
    repeat' split
    all_goals first | exact ⟨rfl, rfl⟩ | (exfalso; simp_all; done) | (exfalso; simp only [xin_iff, Int32.lt_iff_toInt_lt] at *; simp at *; omega) | grind
  · rw [if_neg hp]
    refine c_X9_isTeller ?_
    try simp only [p_X9_isTeller, p_X9_in] at *
    dsimp only
    repeat' split
    all_goals first | exact ⟨rfl, rfl⟩ | (exfalso; simp_all; done) | (exfalso; simp only [xin_iff, Int32.lt_iff_toInt_lt] at *; simp at *; omega) | grind
theorem c_X9_has {F : xQ} {I : xI} {L : xL} {z : Bool × Bool × Nat} {a0 : Int32} {a1 : Int32} (h : (if ((a0 >>> (a1 &&& 31)) &&& 1) = 0 then F (some (.int 0)) (xS I L z) else F (some (.int 1)) (xS I L z))) : xCd 1 191 [.int a0, .int a1] (xS I L z) F := by
  have hd : 0 ≤ 0 := Nat.le_refl _
  exact xin_ (T := k_X9_has) (rt := 2) (ls := [some (.int a0), some (.int a1)]) rfl rfl rfl rfl (xgo b_X9_has_0 h)
abbrev p_X9_has (I : xI) (L : xL) (a0 : Int32) (a1 : Int32) : Prop := ¬ ((a0 >>> (a1 &&& 31)) &&& 1) = 0
theorem s_X9_has {I : xI} {L : xL} {z : Bool × Bool × Nat} {a0 : Int32} {a1 : Int32} : xCd 1 191 [.int a0, .int a1] (xS I L z) (fun r τ => r = some (.int (if p_X9_has I L a0 a1 then 1 else 0)) ∧ τ = xS I L z) := by
  by_cases hp : p_X9_has I L a0 a1
  · rw [if_pos hp]
    refine c_X9_has ?_
    try simp only [p_X9_has] at *
    dsimp only
    repeat' split
    all_goals first | exact ⟨rfl, rfl⟩ | (exfalso; simp_all; done) | (exfalso; simp only [xin_iff, Int32.lt_iff_toInt_lt] at *; simp at *; omega) | grind
  · rw [if_neg hp]
    refine c_X9_has ?_
    try simp only [p_X9_has] at *
    dsimp only
    repeat' split
    all_goals first | exact ⟨rfl, rfl⟩ | (exfalso; simp_all; done) | (exfalso; simp only [xin_iff, Int32.lt_iff_toInt_lt] at *; simp at *; omega) | grind
theorem c_X9_fit {F : xQ} {I : xI} {L : xL} {z : Bool × Bool × Nat} {a0 : Int32} {a1 : Int64} (h : (if a0 = 0 then F (some (.long (Int32.toInt64 ((Int32.toInt8 (Int64.toInt32 a1)).toInt32)))) (xS I L z) else (if a0 = 1 then F (some (.long (Int32.toInt64 ((Int32.toInt16 (Int64.toInt32 a1)).toInt32)))) (xS I L z) else (if a0 = 2 then F (some (.long (Int32.toInt64 (Int64.toInt32 a1)))) (xS I L z) else (if a0 = 3 then F (some (.long a1)) (xS I L z) else (if (if a1 < (Int64.ofNat 0) then -1 else if a1 = (Int64.ofNat 0) then 0 else 1 : Int32) = 0 then F (some (.long (Int64.ofNat 0))) (xS I L z) else F (some (.long (Int64.ofNat 1))) (xS I L z))))))) : xCd 1 194 [.int a0, .long a1] (xS I L z) F := by
  have hd : 0 ≤ 0 := Nat.le_refl _
  exact xin_ (T := k_X9_fit) (rt := 3) (ls := [some (.int a0), some (.long a1), none]) rfl rfl rfl rfl (xgo b_X9_fit_0 h)
def f_X9_fit (I : xI) (L : xL) (a0 : Int32) (a1 : Int64) : Int64 := (if a0 = 0 then Int32.toInt64 ((Int32.toInt8 (Int64.toInt32 a1)).toInt32) else (if a0 = 1 then Int32.toInt64 ((Int32.toInt16 (Int64.toInt32 a1)).toInt32) else (if a0 = 2 then Int32.toInt64 (Int64.toInt32 a1) else (if a0 = 3 then a1 else (if (if a1 < (Int64.ofNat 0) then -1 else if a1 = (Int64.ofNat 0) then 0 else 1 : Int32) = 0 then Int64.ofNat 0 else Int64.ofNat 1)))))
theorem s_X9_fit {I : xI} {L : xL} {z : Bool × Bool × Nat} {a0 : Int32} {a1 : Int64} : xCd 1 194 [.int a0, .long a1] (xS I L z) (fun r τ => r = some (.long (f_X9_fit I L a0 a1)) ∧ τ = xS I L z) := by
  unfold f_X9_fit
  refine c_X9_fit ?_
  skip
  dsimp only
  repeat' split
  all_goals first | exact ⟨rfl, rfl⟩ | (exfalso; simp_all; done) | (exfalso; simp only [xin_iff, Int32.lt_iff_toInt_lt] at *; simp at *; omega) | grind
theorem c_X9_noRow {F : xQ} {I : xI} {L : xL} {z : Bool × Bool × Nat} {a1 : Int32} (h : (if p_X9_in I L (Int32.toInt64 a1) (Int64.ofNat 0) (Int64.ofNat 7) then (if xin a1 (8) then (if (I 67 (Int32.toNatClampNeg a1)) = 2 then (if xin (-(-3 : Int32)) (8) then (if xin (-(-3 : Int32)) (8) then F (some (.int (-3 : Int32))) (xS (xw I 82 (Int32.toNatClampNeg (-(-3 : Int32))) ((I 82 (Int32.toNatClampNeg (-(-3 : Int32)))) + 1)) L z) else False) else False) else (if xin a1 (8) then (if (I 67 (Int32.toNatClampNeg a1)) = 0 then (if xin (-(-4 : Int32)) (8) then (if xin (-(-4 : Int32)) (8) then F (some (.int (-4 : Int32))) (xS (xw I 82 (Int32.toNatClampNeg (-(-4 : Int32))) ((I 82 (Int32.toNatClampNeg (-(-4 : Int32)))) + 1)) L z) else False) else False) else F (some (.int 0)) (xS I L z)) else False)) else False) else (if xin (-(-2 : Int32)) (8) then (if xin (-(-2 : Int32)) (8) then F (some (.int (-2 : Int32))) (xS (xw I 82 (Int32.toNatClampNeg (-(-2 : Int32))) ((I 82 (Int32.toNatClampNeg (-(-2 : Int32)))) + 1)) L z) else False) else False))) : xCd 2 195 [.ref 66, .int a1] (xS I L z) F := by
  have hd : 1 ≤ 1 := Nat.le_refl _
  exact xin_ (T := k_X9_noRow) (rt := 1) (ls := [some (.ref 66), some (.int a1)]) rfl rfl rfl rfl (xgo b_X9_noRow_0 (xuse1 s_X9_in (Nat.le_trans (by decide) hd) (xgo b_X9_noRow_9 (xiteB (fun c269 h269 => (xite (fun c268 h268 => (xite (fun c267 h267 => (xupD (c_X9_refuse (xite (fun c262 h262 => (xite (fun c261 h261 => (xgo b_X9_noRow_35 h261)) (fun c261 h261 => h261) h262)) (fun c262 h262 => h262) h267)) (Nat.le_trans (by decide) hd))) (fun c267 h267 => (xite (fun c266 h266 => (xite (fun c265 h265 => (xupD (c_X9_refuse (xite (fun c264 h264 => (xite (fun c263 h263 => (xgo b_X9_noRow_51 h263)) (fun c263 h263 => h263) h264)) (fun c264 h264 => h264) h265)) (Nat.le_trans (by decide) hd))) (fun c265 h265 => h265) h266)) (fun c266 h266 => h266) h267)) h268)) (fun c268 h268 => h268) h269)) (fun c269 h269 => (xupD (c_X9_refuse (xite (fun c260 h260 => (xite (fun c259 h259 => (xgo b_X9_noRow_18 h259)) (fun c259 h259 => h259) h260)) (fun c260 h260 => h260) h269)) (Nat.le_trans (by decide) hd))) h))))
theorem c_X9_set {F : xQ} {I : xI} {L : xL} {z : Bool × Bool × Nat} {a1 : Int32} {a2 : Int32} {a3 : Int64} (h : (if p_X9_in I L (Int32.toInt64 a1) (Int64.ofNat 0) (Int64.ofNat 7) then (if xin a1 (8) then (if (I 67 (Int32.toNatClampNeg a1)) = 2 then (if xin (-(-3 : Int32)) (8) then (if xin (-(-3 : Int32)) (8) then F (some (.int (-3 : Int32))) (xS (xw I 82 (Int32.toNatClampNeg (-(-3 : Int32))) ((I 82 (Int32.toNatClampNeg (-(-3 : Int32)))) + 1)) L z) else False) else False) else (if xin a1 (8) then (if (I 67 (Int32.toNatClampNeg a1)) = 0 then (if xin (-(-4 : Int32)) (8) then (if xin (-(-4 : Int32)) (8) then F (some (.int (-4 : Int32))) (xS (xw I 82 (Int32.toNatClampNeg (-(-4 : Int32))) ((I 82 (Int32.toNatClampNeg (-(-4 : Int32)))) + 1)) L z) else False) else False) else (if xin a1 (8) then (if p_X9_in I L (Int32.toInt64 a2) (Int64.ofNat 0) (Int32.toInt64 ((I 69 (Int32.toNatClampNeg a1)) - 1)) then (if xin a1 (8) then (if xin a1 (8) then (bif xis (xS I L z) (70 + 1 + Int32.toNatClampNeg a1) 21 && Nat.blt 8 (70 + 1 + Int32.toNatClampNeg a1) then (if xin a2 (xlen z.2.2 ((70 + 1 + Int32.toNatClampNeg a1))) then F (some (.int 1)) (xS I (xwl L (70 + 1 + Int32.toNatClampNeg a1) (Int32.toNatClampNeg a2) (f_X9_fit I L (I 68 (Int32.toNatClampNeg a1)) a3)) z) else False) else False) else False) else False) else (if xin (-(-2 : Int32)) (8) then (if xin (-(-2 : Int32)) (8) then F (some (.int (-2 : Int32))) (xS (xw I 82 (Int32.toNatClampNeg (-(-2 : Int32))) ((I 82 (Int32.toNatClampNeg (-(-2 : Int32)))) + 1)) L z) else False) else False)) else False)) else False)) else False) else (if xin (-(-2 : Int32)) (8) then (if xin (-(-2 : Int32)) (8) then F (some (.int (-2 : Int32))) (xS (xw I 82 (Int32.toNatClampNeg (-(-2 : Int32))) ((I 82 (Int32.toNatClampNeg (-(-2 : Int32)))) + 1)) L z) else False) else False))) : xCd 3 196 [.ref 66, .int a1, .int a2, .long a3] (xS I L z) F := by
  have hd : 2 ≤ 2 := Nat.le_refl _
  exact xin_ (T := k_X9_set) (rt := 1) (ls := [some (.ref 66), some (.int a1), some (.int a2), some (.long a3), none, none]) rfl rfl rfl rfl (xgo b_X9_set_0 (xupD (c_X9_noRow (xite (fun c287 h287 => (xite (fun c284 h284 => (xite (fun c283 h283 => (xite (fun c271 h271 => (xite (fun c270 h270 => (xgo b_X9_set_5 (xitF (by decide) h270))) (fun c270 h270 => h270) h271)) (fun c271 h271 => h271) h283)) (fun c283 h283 => (xite (fun c282 h282 => (xite (fun c281 h281 => (xite (fun c273 h273 => (xite (fun c272 h272 => (xgo b_X9_set_5 (xitF (by decide) h272))) (fun c272 h272 => h272) h273)) (fun c273 h273 => h273) h281)) (fun c281 h281 => (xgo b_X9_set_5 (xitT (by decide) (xite (fun c280 h280 => (xuse1 s_X9_in (Nat.le_trans (by decide) hd) (xgo b_X9_set_30 (xiteB (fun c279 h279 => (xite (fun c278 h278 => (xite (fun c277 h277 => (xuse1 s_X9_fit (Nat.le_trans (by decide) hd) (xgo b_X9_set_57 h277))) (fun c277 h277 => h277) h278)) (fun c278 h278 => h278) h279)) (fun c279 h279 => (xupD (c_X9_refuse (xite (fun c275 h275 => (xite (fun c274 h274 => (xgo b_X9_set_39 h274)) (fun c274 h274 => h274) h275)) (fun c275 h275 => h275) h279)) (Nat.le_trans (by decide) hd))) h280)))) (fun c280 h280 => h280) h281)))) h282)) (fun c282 h282 => h282) h283)) h284)) (fun c284 h284 => h284) h287)) (fun c287 h287 => (xite (fun c286 h286 => (xite (fun c285 h285 => (xgo b_X9_set_5 (xitF (by decide) h285))) (fun c285 h285 => h285) h286)) (fun c286 h286 => h286) h287)) h)) (Nat.le_trans (by decide) hd)))
theorem c_X9_element {F : xQ} {I : xI} {L : xL} {z : Bool × Bool × Nat} {a1 : Int32} {a2 : Int32} (h : (if p_X9_in I L (Int32.toInt64 a1) (Int64.ofNat 0) (Int64.ofNat 7) then (if xin a1 (8) then (if (I 67 (Int32.toNatClampNeg a1)) = 1 then (if xin a1 (8) then (if p_X9_in I L (Int32.toInt64 a2) (Int64.ofNat 0) (Int32.toInt64 ((I 69 (Int32.toNatClampNeg a1)) - 1)) then (if xin a1 (8) then (bif xis (xS I L z) (70 + 1 + Int32.toNatClampNeg a1) 21 then (if xin a2 (xlen z.2.2 (70 + 1 + Int32.toNatClampNeg a1)) then F (some (.long (L (70 + 1 + Int32.toNatClampNeg a1) (Int32.toNatClampNeg a2)))) (xS I L z) else False) else False) else False) else F (some (.long (Int64.ofNat 0))) (xS I L z)) else False) else F (some (.long (Int64.ofNat 0))) (xS I L z)) else False) else F (some (.long (Int64.ofNat 0))) (xS I L z))) : xCd 2 198 [.ref 66, .int a1, .int a2] (xS I L z) F := by
  have hd : 1 ≤ 1 := Nat.le_refl _
  exact xin_ (T := k_X9_element) (rt := 3) (ls := [some (.ref 66), some (.int a1), some (.int a2)]) rfl rfl rfl rfl (xgo b_X9_element_0 (xuse1 s_X9_in (Nat.le_trans (by decide) hd) (xgo b_X9_element_9 (xiteB (fun c294 h294 => (xite (fun c293 h293 => (xite (fun c292 h292 => (xite (fun c291 h291 => (xuse1 s_X9_in (Nat.le_trans (by decide) hd) (xgo b_X9_element_37 (xiteB (fun c290 h290 => h290) (fun c290 h290 => h290) h291)))) (fun c291 h291 => h291) h292)) (fun c292 h292 => h292) h293)) (fun c293 h293 => h293) h294)) (fun c294 h294 => h294) h))))
def f_X9_element (I : xI) (L : xL) (a1 : Int32) (a2 : Int32) : Int64 := (if p_X9_in I L (Int32.toInt64 a1) (Int64.ofNat 0) (Int64.ofNat 7) then (if xin a1 (8) then (if (I 67 (Int32.toNatClampNeg a1)) = 1 then (if xin a1 (8) then (if p_X9_in I L (Int32.toInt64 a2) (Int64.ofNat 0) (Int32.toInt64 ((I 69 (Int32.toNatClampNeg a1)) - 1)) then (if xin a1 (8) then (if xin a2 (xlen z.2.2 (70 + 1 + Int32.toNatClampNeg a1)) then L (70 + 1 + Int32.toNatClampNeg a1) (Int32.toNatClampNeg a2) else 0) else 0) else Int64.ofNat 0) else 0) else Int64.ofNat 0) else 0) else Int64.ofNat 0)
theorem s_X9_element {I : xI} {L : xL} {z : Bool × Bool × Nat} {a1 : Int32} {a2 : Int32} : xCd 2 198 [.ref 66, .int a1, .int a2] (xS I L z) (fun r τ => r = some (.long (f_X9_element I L a1 a2)) ∧ τ = xS I L z) := by
  unfold f_X9_element
  refine c_X9_element ?_
  try simp only [p_X9_in] at *
  dsimp only
  repeat' split
  all_goals first | exact ⟨rfl, rfl⟩ | (exfalso; simp_all; done) | (exfalso; simp only [xin_iff, Int32.lt_iff_toInt_lt] at *; simp at *; omega) | grind
theorem c_X9_holds {F : xQ} {I : xI} {L : xL} {z : Bool × Bool × Nat} {a1 : Int32} (h : (if p_X9_in I L (Int32.toInt64 a1) (Int64.ofNat 0) (Int64.ofNat 7) then (if xin a1 (8) then (if (I 67 (Int32.toNatClampNeg a1)) = 0 then F (some (.int (-1 : Int32))) (xS I L z) else (if xin a1 (8) then (if (I 67 (Int32.toNatClampNeg a1)) = 1 then (if xin a1 (8) then F (some (.int (I 68 (Int32.toNatClampNeg a1)))) (xS I L z) else False) else (if xin a1 (8) then F (some (.int (10 + (I 80 (Int32.toNatClampNeg a1))))) (xS I L z) else False)) else False)) else False) else F (some (.int (-1 : Int32))) (xS I L z))) : xCd 2 199 [.ref 66, .int a1] (xS I L z) F := by
  have hd : 1 ≤ 1 := Nat.le_refl _
  exact xin_ (T := k_X9_holds) (rt := 1) (ls := [some (.ref 66), some (.int a1)]) rfl rfl rfl rfl (xgo b_X9_holds_0 (xuse1 s_X9_in (Nat.le_trans (by decide) hd) (xgo b_X9_holds_9 (xiteB (fun c301 h301 => h301) (fun c301 h301 => h301) h))))
def f_X9_holds (I : xI) (L : xL) (a1 : Int32) : Int32 := (if p_X9_in I L (Int32.toInt64 a1) (Int64.ofNat 0) (Int64.ofNat 7) then (if xin a1 (8) then (if (I 67 (Int32.toNatClampNeg a1)) = 0 then (-1 : Int32) else (if xin a1 (8) then (if (I 67 (Int32.toNatClampNeg a1)) = 1 then (if xin a1 (8) then I 68 (Int32.toNatClampNeg a1) else 0) else (if xin a1 (8) then 10 + (I 80 (Int32.toNatClampNeg a1)) else 0)) else 0)) else 0) else (-1 : Int32))
theorem s_X9_holds {I : xI} {L : xL} {z : Bool × Bool × Nat} {a1 : Int32} : xCd 2 199 [.ref 66, .int a1] (xS I L z) (fun r τ => r = some (.int (f_X9_holds I L a1)) ∧ τ = xS I L z) := by
  unfold f_X9_holds
  refine c_X9_holds ?_
  try simp only [p_X9_in] at *
  dsimp only
  repeat' split
  all_goals first | exact ⟨rfl, rfl⟩ | (exfalso; simp_all; done) | (exfalso; simp only [xin_iff, Int32.lt_iff_toInt_lt] at *; simp at *; omega) | grind
theorem c_X9_show {F : xQ} {I : xI} {L : xL} {z : Bool × Bool × Nat} {a1 : Int32} {a2 : Int32} (h : (if p_X9_in I L (Int32.toInt64 a1) (Int64.ofNat 0) (Int64.ofNat 7) then (if a2 = (-1 : Int32) then (if a2 = (-1 : Int32) then (if xin a1 (8) then (if xin a1 (8) then F (some (.int 1)) (xS (xw (xw I 67 (Int32.toNatClampNeg a1) 0) 80 (Int32.toNatClampNeg a1) a2) L z) else False) else False) else (if xin a1 (8) then (if xin a1 (8) then F (some (.int 1)) (xS (xw (xw I 67 (Int32.toNatClampNeg a1) 2) 80 (Int32.toNatClampNeg a1) a2) L z) else False) else False)) else (if p_X9_isTeller I L a2 then (if a2 = (-1 : Int32) then (if xin a1 (8) then (if xin a1 (8) then F (some (.int 1)) (xS (xw (xw I 67 (Int32.toNatClampNeg a1) 0) 80 (Int32.toNatClampNeg a1) a2) L z) else False) else False) else (if xin a1 (8) then (if xin a1 (8) then F (some (.int 1)) (xS (xw (xw I 67 (Int32.toNatClampNeg a1) 2) 80 (Int32.toNatClampNeg a1) a2) L z) else False) else False)) else (if xin (-(-2 : Int32)) (8) then (if xin (-(-2 : Int32)) (8) then F (some (.int (-2 : Int32))) (xS (xw I 82 (Int32.toNatClampNeg (-(-2 : Int32))) ((I 82 (Int32.toNatClampNeg (-(-2 : Int32)))) + 1)) L z) else False) else False))) else (if xin (-(-2 : Int32)) (8) then (if xin (-(-2 : Int32)) (8) then F (some (.int (-2 : Int32))) (xS (xw I 82 (Int32.toNatClampNeg (-(-2 : Int32))) ((I 82 (Int32.toNatClampNeg (-(-2 : Int32)))) + 1)) L z) else False) else False))) : xCd 3 200 [.ref 66, .int a1, .int a2] (xS I L z) F := by
  have hd : 2 ≤ 2 := Nat.le_refl _
  exact xin_ (T := k_X9_show) (rt := 1) (ls := [some (.ref 66), some (.int a1), some (.int a2)]) rfl rfl rfl rfl (xgo b_X9_show_0 (xuse1 s_X9_in (Nat.le_trans (by decide) hd) (xgo b_X9_show_9 (xiteB (fun c318 h318 => (xite (fun c317 h317 => (xgo b_X9_show_32 h317)) (fun c317 h317 => (xuse1 s_X9_isTeller (Nat.le_trans (by decide) hd) (xgo b_X9_show_22 (xiteB (fun c316 h316 => (xgo b_X9_show_32 h316)) (fun c316 h316 => (xupD (c_X9_refuse (xite (fun c310 h310 => (xite (fun c309 h309 => (xgo b_X9_show_31 h309)) (fun c309 h309 => h309) h310)) (fun c310 h310 => h310) h316)) (Nat.le_trans (by decide) hd))) h317)))) h318)) (fun c318 h318 => (xupD (c_X9_refuse (xite (fun c303 h303 => (xite (fun c302 h302 => (xgo b_X9_show_31 h302)) (fun c302 h302 => h302) h303)) (fun c303 h303 => h303) h318)) (Nat.le_trans (by decide) hd))) h))))
theorem c_X9_isUnder {F : xQ} {I : xI} {L : xL} {z : Bool × Bool × Nat} {a0 : Int32} {a1 : Int32} (h : (if a1 = 0 then F (some (.int 1)) (xS I L z) else (if a0 = a1 then F (some (.int 1)) (xS I L z) else (if a1 = 2 then (if a0 = 3 then F (some (.int 1)) (xS I L z) else (if a0 = 5 then F (some (.int 1)) (xS I L z) else (if a0 = 4 then F (some (.int 1)) (xS I L z) else F (some (.int 0)) (xS I L z)))) else (if a1 = 3 then (if a0 = 4 then F (some (.int 1)) (xS I L z) else F (some (.int 0)) (xS I L z)) else F (some (.int 0)) (xS I L z)))))) : xCd 1 201 [.int a0, .int a1] (xS I L z) F := by
  have hd : 0 ≤ 0 := Nat.le_refl _
  exact xin_ (T := k_X9_isUnder) (rt := 2) (ls := [some (.int a0), some (.int a1)]) rfl rfl rfl rfl (xgo b_X9_isUnder_0 h)
abbrev p_X9_isUnder (I : xI) (L : xL) (a0 : Int32) (a1 : Int32) : Prop := (a1 = 0 ∨ (a0 = a1 ∨ ((a1 = 2 ∧ (a0 = 3 ∨ (a0 = 5 ∨ a0 = 4))) ∨ (¬ a1 = 2 ∧ (a1 = 3 ∧ a0 = 4)))))
theorem s_X9_isUnder {I : xI} {L : xL} {z : Bool × Bool × Nat} {a0 : Int32} {a1 : Int32} : xCd 1 201 [.int a0, .int a1] (xS I L z) (fun r τ => r = some (.int (if p_X9_isUnder I L a0 a1 then 1 else 0)) ∧ τ = xS I L z) := by
  by_cases hp : p_X9_isUnder I L a0 a1
  · rw [if_pos hp]
    refine c_X9_isUnder ?_
    try simp only [p_X9_isUnder] at *
    dsimp only
    repeat' split
    all_goals first | exact ⟨rfl, rfl⟩ | (exfalso; simp_all; done) | (exfalso; simp only [xin_iff, Int32.lt_iff_toInt_lt] at *; simp at *; omega) | grind
  · rw [if_neg hp]
    refine c_X9_isUnder ?_
    try simp only [p_X9_isUnder] at *
    dsimp only
    repeat' split
    all_goals first | exact ⟨rfl, rfl⟩ | (exfalso; simp_all; done) | (exfalso; simp only [xin_iff, Int32.lt_iff_toInt_lt] at *; simp at *; omega) | grind
theorem c_X9_noCups {F : xQ} {I : xI} {L : xL} {z : Bool × Bool × Nat} {a1 : Int32} (h : (if p_X9_in I L (Int32.toInt64 a1) (Int64.ofNat 0) (Int64.ofNat 7) then (if xin a1 (8) then (if (I 67 (Int32.toNatClampNeg a1)) = 2 then (if xin (-(-3 : Int32)) (8) then (if xin (-(-3 : Int32)) (8) then F (some (.int (-3 : Int32))) (xS (xw I 82 (Int32.toNatClampNeg (-(-3 : Int32))) ((I 82 (Int32.toNatClampNeg (-(-3 : Int32)))) + 1)) L z) else False) else False) else (if xin a1 (8) then (if (I 67 (Int32.toNatClampNeg a1)) = 0 then (if xin (-(-4 : Int32)) (8) then (if xin (-(-4 : Int32)) (8) then F (some (.int (-4 : Int32))) (xS (xw I 82 (Int32.toNatClampNeg (-(-4 : Int32))) ((I 82 (Int32.toNatClampNeg (-(-4 : Int32)))) + 1)) L z) else False) else False) else (if xin a1 (8) then (if (I 69 (Int32.toNatClampNeg a1)) < (I 66 9) then (if xin (-(-2 : Int32)) (8) then (if xin (-(-2 : Int32)) (8) then F (some (.int (-2 : Int32))) (xS (xw I 82 (Int32.toNatClampNeg (-(-2 : Int32))) ((I 82 (Int32.toNatClampNeg (-(-2 : Int32)))) + 1)) L z) else False) else False) else F (some (.int 0)) (xS I L z)) else False)) else False)) else False) else (if xin (-(-2 : Int32)) (8) then (if xin (-(-2 : Int32)) (8) then F (some (.int (-2 : Int32))) (xS (xw I 82 (Int32.toNatClampNeg (-(-2 : Int32))) ((I 82 (Int32.toNatClampNeg (-(-2 : Int32)))) + 1)) L z) else False) else False))) : xCd 3 207 [.ref 66, .int a1] (xS I L z) F := by
  have hd : 2 ≤ 2 := Nat.le_refl _
  exact xin_ (T := k_X9_noCups) (rt := 1) (ls := [some (.ref 66), some (.int a1), none]) rfl rfl rfl rfl (xgo b_X9_noCups_0 (xupD (c_X9_noRow (xite (fun c377 h377 => (xite (fun c374 h374 => (xite (fun c373 h373 => (xite (fun c364 h364 => (xite (fun c363 h363 => (xgo b_X9_noCups_5 (xitF (by decide) h363))) (fun c363 h363 => h363) h364)) (fun c364 h364 => h364) h373)) (fun c373 h373 => (xite (fun c372 h372 => (xite (fun c371 h371 => (xite (fun c366 h366 => (xite (fun c365 h365 => (xgo b_X9_noCups_5 (xitF (by decide) h365))) (fun c365 h365 => h365) h366)) (fun c366 h366 => h366) h371)) (fun c371 h371 => (xgo b_X9_noCups_5 (xitT (by decide) (xite (fun c370 h370 => (xite (fun c369 h369 => (xupD (c_X9_refuse (xite (fun c368 h368 => (xite (fun c367 h367 => (xgo b_X9_noCups_31 h367)) (fun c367 h367 => h367) h368)) (fun c368 h368 => h368) h369)) (Nat.le_trans (by decide) hd))) (fun c369 h369 => h369) h370)) (fun c370 h370 => h370) h371)))) h372)) (fun c372 h372 => h372) h373)) h374)) (fun c374 h374 => h374) h377)) (fun c377 h377 => (xite (fun c376 h376 => (xite (fun c375 h375 => (xgo b_X9_noCups_5 (xitF (by decide) h375))) (fun c375 h375 => h375) h376)) (fun c376 h376 => h376) h377)) h)) (Nat.le_trans (by decide) hd)))
theorem c_X9_law {F : xQ} {I : xI} {L : xL} {z : Bool × Bool × Nat} {a1 : Int32} (h : (if p_X9_in I L (Int32.toInt64 a1) (Int64.ofNat 0) (Int64.ofNat 2) then F (some (.int (I 66 10))) (xS (xw I 66 10 a1) L z) else (if xin (-(-2 : Int32)) (8) then (if xin (-(-2 : Int32)) (8) then F (some (.int (-2 : Int32))) (xS (xw I 82 (Int32.toNatClampNeg (-(-2 : Int32))) ((I 82 (Int32.toNatClampNeg (-(-2 : Int32)))) + 1)) L z) else False) else False))) : xCd 2 211 [.ref 66, .int a1] (xS I L z) F := by
  have hd : 1 ≤ 1 := Nat.le_refl _
  exact xin_ (T := k_X9_law) (rt := 1) (ls := [some (.ref 66), some (.int a1), none]) rfl rfl rfl rfl (xgo b_X9_law_0 (xuse1 s_X9_in (Nat.le_trans (by decide) hd) (xgo b_X9_law_9 (xiteB (fun c380 h380 => h380) (fun c380 h380 => (xupD (c_X9_refuse (xite (fun c379 h379 => (xite (fun c378 h378 => (xgo b_X9_law_18 h378)) (fun c378 h378 => h378) h379)) (fun c379 h379 => h379) h380)) (Nat.le_trans (by decide) hd))) h))))
theorem c_X9_sort {F : xQ} {I : xI} {L : xL} {z : Bool × Bool × Nat} {a1 : Int32} {a2 : Int32} {a3 : Int32} (h : (if p_X9_in I L (Int32.toInt64 a1) (Int64.ofNat 0) (Int64.ofNat 5) then (if p_X9_in I L (Int32.toInt64 a2) (Int64.ofNat 0) (Int64.ofNat 2) then (if p_X9_in I L (Int32.toInt64 a3) (Int64.ofNat 0) (Int64.ofNat 9) then (if xin a1 (6) then (bif xisi (xS I L z) (85 + 1 + Int32.toNatClampNeg a1) then (if xin a2 (xlen z.2.2 (85 + 1 + Int32.toNatClampNeg a1)) then (if xin a1 (6) then (bif xis (xS I L z) (85 + 1 + Int32.toNatClampNeg a1) 20 && Nat.blt 8 (85 + 1 + Int32.toNatClampNeg a1) then (if xin a2 (xlen z.2.2 (85 + 1 + Int32.toNatClampNeg a1)) then F (some (.int (I (85 + 1 + Int32.toNatClampNeg a1) (Int32.toNatClampNeg a2)))) (xS (xw I (85 + 1 + Int32.toNatClampNeg a1) (Int32.toNatClampNeg a2) a3) L z) else False) else False) else False) else False) else False) else False) else (if xin (-(-2 : Int32)) (8) then (if xin (-(-2 : Int32)) (8) then F (some (.int (-2 : Int32))) (xS (xw I 82 (Int32.toNatClampNeg (-(-2 : Int32))) ((I 82 (Int32.toNatClampNeg (-(-2 : Int32)))) + 1)) L z) else False) else False)) else (if xin (-(-2 : Int32)) (8) then (if xin (-(-2 : Int32)) (8) then F (some (.int (-2 : Int32))) (xS (xw I 82 (Int32.toNatClampNeg (-(-2 : Int32))) ((I 82 (Int32.toNatClampNeg (-(-2 : Int32)))) + 1)) L z) else False) else False)) else (if xin (-(-2 : Int32)) (8) then (if xin (-(-2 : Int32)) (8) then F (some (.int (-2 : Int32))) (xS (xw I 82 (Int32.toNatClampNeg (-(-2 : Int32))) ((I 82 (Int32.toNatClampNeg (-(-2 : Int32)))) + 1)) L z) else False) else False))) : xCd 2 212 [.ref 66, .int a1, .int a2, .int a3] (xS I L z) F := by
  have hd : 1 ≤ 1 := Nat.le_refl _
  exact xin_ (T := k_X9_sort) (rt := 1) (ls := [some (.ref 66), some (.int a1), some (.int a2), some (.int a3), none]) rfl rfl rfl rfl (xgo b_X9_sort_0 (xuse1 s_X9_in (Nat.le_trans (by decide) hd) (xgo b_X9_sort_9 (xiteB (fun c393 h393 => (xuse1 s_X9_in (Nat.le_trans (by decide) hd) (xgo b_X9_sort_21 (xiteB (fun c392 h392 => (xuse1 s_X9_in (Nat.le_trans (by decide) hd) (xgo b_X9_sort_33 (xiteB (fun c391 h391 => h391) (fun c391 h391 => (xupD (c_X9_refuse (xite (fun c386 h386 => (xite (fun c385 h385 => (xgo b_X9_sort_42 h385)) (fun c385 h385 => h385) h386)) (fun c386 h386 => h386) h391)) (Nat.le_trans (by decide) hd))) h392)))) (fun c392 h392 => (xupD (c_X9_refuse (xite (fun c384 h384 => (xite (fun c383 h383 => (xgo b_X9_sort_42 h383)) (fun c383 h383 => h383) h384)) (fun c384 h384 => h384) h392)) (Nat.le_trans (by decide) hd))) h393)))) (fun c393 h393 => (xupD (c_X9_refuse (xite (fun c382 h382 => (xite (fun c381 h381 => (xgo b_X9_sort_42 h381)) (fun c381 h381 => h381) h382)) (fun c382 h382 => h382) h393)) (Nat.le_trans (by decide) hd))) h))))
theorem c_X9_guest {F : xQ} {I : xI} {L : xL} {z : Bool × Bool × Nat} {a1 : Int32} {a2 : Int32} {a3 : Int32} (h : (if p_X9_isPlace I L (Int32.toInt64 a1) then (if p_X9_in I L (Int32.toInt64 a2) (Int64.ofNat 18446744073709551615) (Int64.ofNat 5) then (if p_X9_in I L (Int32.toInt64 a3) (Int64.ofNat 0) (Int64.ofNat 9) then (if xin a1 (6) then (if xin a1 (6) then F (some (.int 1)) (xS (xw (xw I 92 (Int32.toNatClampNeg a1) a2) 93 (Int32.toNatClampNeg a1) a3) L z) else False) else False) else (if xin (-(-2 : Int32)) (8) then (if xin (-(-2 : Int32)) (8) then F (some (.int (-2 : Int32))) (xS (xw I 82 (Int32.toNatClampNeg (-(-2 : Int32))) ((I 82 (Int32.toNatClampNeg (-(-2 : Int32)))) + 1)) L z) else False) else False)) else (if xin (-(-2 : Int32)) (8) then (if xin (-(-2 : Int32)) (8) then F (some (.int (-2 : Int32))) (xS (xw I 82 (Int32.toNatClampNeg (-(-2 : Int32))) ((I 82 (Int32.toNatClampNeg (-(-2 : Int32)))) + 1)) L z) else False) else False)) else (if xin (-(-2 : Int32)) (8) then (if xin (-(-2 : Int32)) (8) then F (some (.int (-2 : Int32))) (xS (xw I 82 (Int32.toNatClampNeg (-(-2 : Int32))) ((I 82 (Int32.toNatClampNeg (-(-2 : Int32)))) + 1)) L z) else False) else False))) : xCd 3 213 [.ref 66, .int a1, .int a2, .int a3] (xS I L z) F := by
  have hd : 2 ≤ 2 := Nat.le_refl _
  exact xin_ (T := k_X9_guest) (rt := 1) (ls := [some (.ref 66), some (.int a1), some (.int a2), some (.int a3)]) rfl rfl rfl rfl (xgo b_X9_guest_0 (xuse1 s_X9_isPlace (Nat.le_trans (by decide) hd) (xgo b_X9_guest_6 (xiteB (fun c404 h404 => (xuse1 s_X9_in (Nat.le_trans (by decide) hd) (xgo b_X9_guest_20 (xiteB (fun c403 h403 => (xuse1 s_X9_in (Nat.le_trans (by decide) hd) (xgo b_X9_guest_32 (xiteB (fun c402 h402 => h402) (fun c402 h402 => (xupD (c_X9_refuse (xite (fun c399 h399 => (xite (fun c398 h398 => (xgo b_X9_guest_41 h398)) (fun c398 h398 => h398) h399)) (fun c399 h399 => h399) h402)) (Nat.le_trans (by decide) hd))) h403)))) (fun c403 h403 => (xupD (c_X9_refuse (xite (fun c397 h397 => (xite (fun c396 h396 => (xgo b_X9_guest_41 h396)) (fun c396 h396 => h396) h397)) (fun c397 h397 => h397) h403)) (Nat.le_trans (by decide) hd))) h404)))) (fun c404 h404 => (xupD (c_X9_refuse (xite (fun c395 h395 => (xite (fun c394 h394 => (xgo b_X9_guest_41 h394)) (fun c394 h394 => h394) h395)) (fun c395 h395 => h395) h404)) (Nat.le_trans (by decide) hd))) h))))
theorem c_X9_addTeller {F : xQ} {I : xI} {L : xL} {z : Bool × Bool × Nat} {a1 : Int32} {a2 : Int32} (h : (if xin (I 66 17) (4) then (if xin ((xw I 101 (Int32.toNatClampNeg (I 66 17)) a1) 66 17) (4) then F none (xS (xw (xw (xw I 101 (Int32.toNatClampNeg (I 66 17)) a1) 102 (Int32.toNatClampNeg ((xw I 101 (Int32.toNatClampNeg (I 66 17)) a1) 66 17)) a2) 66 17 (((xw (xw I 101 (Int32.toNatClampNeg (I 66 17)) a1) 102 (Int32.toNatClampNeg ((xw I 101 (Int32.toNatClampNeg (I 66 17)) a1) 66 17)) a2) 66 17) + 1)) L z) else False) else False)) : xCd 1 214 [.ref 66, .int a1, .int a2] (xS I L z) F := by
  have hd : 0 ≤ 0 := Nat.le_refl _
  exact xin_ (T := k_X9_addTeller) (rt := 0) (ls := [some (.ref 66), some (.int a1), some (.int a2)]) rfl rfl rfl rfl (xgo b_X9_addTeller_0 h)
theorem c_X9_teller {F : xQ} {I : xI} {L : xL} {z : Bool × Bool × Nat} {a1 : Int32} {a2 : Int32} (h : (if p_X9_in I L (Int32.toInt64 a1) (Int64.ofNat 0) (Int64.ofNat 5) then (if p_X9_in I L (Int32.toInt64 a2) (Int64.ofNat 0) (Int64.ofNat 9) then (if (I 66 17) = 4 then (if xin (-(-6 : Int32)) (8) then (if xin (-(-6 : Int32)) (8) then F (some (.int (-6 : Int32))) (xS (xw I 82 (Int32.toNatClampNeg (-(-6 : Int32))) ((I 82 (Int32.toNatClampNeg (-(-6 : Int32)))) + 1)) L z) else False) else False) else (if xin (I 66 17) (4) then (if xin ((xw I 101 (Int32.toNatClampNeg (I 66 17)) a1) 66 17) (4) then F (some (.int (((xw (xw (xw I 101 (Int32.toNatClampNeg (I 66 17)) a1) 102 (Int32.toNatClampNeg ((xw I 101 (Int32.toNatClampNeg (I 66 17)) a1) 66 17)) a2) 66 17 (((xw (xw I 101 (Int32.toNatClampNeg (I 66 17)) a1) 102 (Int32.toNatClampNeg ((xw I 101 (Int32.toNatClampNeg (I 66 17)) a1) 66 17)) a2) 66 17) + 1)) 66 17) - 1))) (xS (xw (xw (xw I 101 (Int32.toNatClampNeg (I 66 17)) a1) 102 (Int32.toNatClampNeg ((xw I 101 (Int32.toNatClampNeg (I 66 17)) a1) 66 17)) a2) 66 17 (((xw (xw I 101 (Int32.toNatClampNeg (I 66 17)) a1) 102 (Int32.toNatClampNeg ((xw I 101 (Int32.toNatClampNeg (I 66 17)) a1) 66 17)) a2) 66 17) + 1)) L z) else False) else False)) else (if xin (-(-2 : Int32)) (8) then (if xin (-(-2 : Int32)) (8) then F (some (.int (-2 : Int32))) (xS (xw I 82 (Int32.toNatClampNeg (-(-2 : Int32))) ((I 82 (Int32.toNatClampNeg (-(-2 : Int32)))) + 1)) L z) else False) else False)) else (if xin (-(-2 : Int32)) (8) then (if xin (-(-2 : Int32)) (8) then F (some (.int (-2 : Int32))) (xS (xw I 82 (Int32.toNatClampNeg (-(-2 : Int32))) ((I 82 (Int32.toNatClampNeg (-(-2 : Int32)))) + 1)) L z) else False) else False))) : xCd 2 215 [.ref 66, .int a1, .int a2] (xS I L z) F := by
  have hd : 1 ≤ 1 := Nat.le_refl _
  exact xin_ (T := k_X9_teller) (rt := 1) (ls := [some (.ref 66), some (.int a1), some (.int a2)]) rfl rfl rfl rfl (xgo b_X9_teller_0 (xuse1 s_X9_in (Nat.le_trans (by decide) hd) (xgo b_X9_teller_9 (xiteB (fun c417 h417 => (xuse1 s_X9_in (Nat.le_trans (by decide) hd) (xgo b_X9_teller_21 (xiteB (fun c416 h416 => (xite (fun c415 h415 => (xupD (c_X9_refuse (xite (fun c412 h412 => (xite (fun c411 h411 => (xgo b_X9_teller_45 h411)) (fun c411 h411 => h411) h412)) (fun c412 h412 => h412) h415)) (Nat.le_trans (by decide) hd))) (fun c415 h415 => (xupD (c_X9_addTeller (xite (fun c414 h414 => (xite (fun c413 h413 => (xgo b_X9_teller_52 h413)) (fun c413 h413 => h413) h414)) (fun c414 h414 => h414) h415)) (Nat.le_trans (by decide) hd))) h416)) (fun c416 h416 => (xupD (c_X9_refuse (xite (fun c410 h410 => (xite (fun c409 h409 => (xgo b_X9_teller_30 h409)) (fun c409 h409 => h409) h410)) (fun c410 h410 => h410) h416)) (Nat.le_trans (by decide) hd))) h417)))) (fun c417 h417 => (xupD (c_X9_refuse (xite (fun c408 h408 => (xite (fun c407 h407 => (xgo b_X9_teller_30 h407)) (fun c407 h407 => h407) h408)) (fun c408 h408 => h408) h417)) (Nat.le_trans (by decide) hd))) h))))
theorem c_X9_mayBe {F : xQ} {I : xI} {L : xL} {z : Bool × Bool × Nat} {a0 : Int32} {a1 : Int32} (h : (if a0 = 3 then F (some (.int (if p_X9_in I L (Int32.toInt64 a1) (Int64.ofNat 0) (Int64.ofNat 5) then 1 else 0))) (xS I L z) else F (some (.int (if p_X9_in I L (Int32.toInt64 a1) (Int64.ofNat 0) (Int64.ofNat 9) then 1 else 0))) (xS I L z))) : xCd 2 216 [.int a0, .int a1] (xS I L z) F := by
  have hd : 1 ≤ 1 := Nat.le_refl _
  exact xin_ (T := k_X9_mayBe) (rt := 2) (ls := [some (.int a0), some (.int a1)]) rfl rfl rfl rfl (xgo b_X9_mayBe_0 (xite (fun c418 h418 => (xuse1 s_X9_in (Nat.le_trans (by decide) hd) (xgo b_X9_mayBe_20 (xbifT xbool_b h418)))) (fun c418 h418 => (xuse1 s_X9_in (Nat.le_trans (by decide) hd) (xgo b_X9_mayBe_20 (xbifT xbool_b h418)))) h))
abbrev p_X9_mayBe (I : xI) (L : xL) (a0 : Int32) (a1 : Int32) : Prop := ((a0 = 3 ∧ (p_X9_in I L (Int32.toInt64 a1) (Int64.ofNat 0) (Int64.ofNat 5))) ∨ (¬ a0 = 3 ∧ (p_X9_in I L (Int32.toInt64 a1) (Int64.ofNat 0) (Int64.ofNat 9))))
theorem s_X9_mayBe {I : xI} {L : xL} {z : Bool × Bool × Nat} {a0 : Int32} {a1 : Int32} : xCd 2 216 [.int a0, .int a1] (xS I L z) (fun r τ => r = some (.int (if p_X9_mayBe I L a0 a1 then 1 else 0)) ∧ τ = xS I L z) := by
  by_cases hp : p_X9_mayBe I L a0 a1
  · rw [if_pos hp]
    refine c_X9_mayBe ?_
    try simp only [p_X9_mayBe, p_X9_in] at *
    dsimp only
    repeat' split
    all_goals first | exact ⟨rfl, rfl⟩ | (exfalso; simp_all; done) | (exfalso; simp only [xin_iff, Int32.lt_iff_toInt_lt] at *; simp at *; omega) | grind
  · rw [if_neg hp]
    refine c_X9_mayBe ?_
    try simp only [p_X9_mayBe, p_X9_in] at *
    dsimp only
    repeat' split
    all_goals first | exact ⟨rfl, rfl⟩ | (exfalso; simp_all; done) | (exfalso; simp only [xin_iff, Int32.lt_iff_toInt_lt] at *; simp at *; omega) | grind
theorem c_X9_feed {F : xQ} {I : xI} {L : xL} {z : Bool × Bool × Nat} {a1 : Int32} (h : (if p_X9_in I L (Int32.toInt64 a1) (Int64.ofNat 0) (Int64.ofNat 255) then (if (I 66 7) = 250 then (if xin (-(-6 : Int32)) (8) then (if xin (-(-6 : Int32)) (8) then F (some (.int (-6 : Int32))) (xS (xw I 82 (Int32.toNatClampNeg (-(-6 : Int32))) ((I 82 (Int32.toNatClampNeg (-(-6 : Int32)))) + 1)) L z) else False) else False) else (if xin (I 66 7) (250) then F (some (.int ((xw (xw I 66 7 ((I 66 7) + 1)) 81 (Int32.toNatClampNeg (I 66 7)) a1) 66 7))) (xS (xw (xw I 66 7 ((I 66 7) + 1)) 81 (Int32.toNatClampNeg (I 66 7)) a1) L z) else False)) else (if xin (-(-2 : Int32)) (8) then (if xin (-(-2 : Int32)) (8) then F (some (.int (-2 : Int32))) (xS (xw I 82 (Int32.toNatClampNeg (-(-2 : Int32))) ((I 82 (Int32.toNatClampNeg (-(-2 : Int32)))) + 1)) L z) else False) else False))) : xCd 2 220 [.ref 66, .int a1] (xS I L z) F := by
  have hd : 1 ≤ 1 := Nat.le_refl _
  exact xin_ (T := k_X9_feed) (rt := 1) (ls := [some (.ref 66), some (.int a1)]) rfl rfl rfl rfl (xgo b_X9_feed_0 (xuse1 s_X9_in (Nat.le_trans (by decide) hd) (xgo b_X9_feed_9 (xiteB (fun c434 h434 => (xite (fun c433 h433 => (xupD (c_X9_refuse (xite (fun c431 h431 => (xite (fun c430 h430 => (xgo b_X9_feed_35 h430)) (fun c430 h430 => h430) h431)) (fun c431 h431 => h431) h433)) (Nat.le_trans (by decide) hd))) (fun c433 h433 => h433) h434)) (fun c434 h434 => (xupD (c_X9_refuse (xite (fun c429 h429 => (xite (fun c428 h428 => (xgo b_X9_feed_18 h428)) (fun c428 h428 => h428) h429)) (fun c429 h429 => h429) h434)) (Nat.le_trans (by decide) hd))) h))))
theorem c_X9_wipe {F : xQ} {I : xI} {L : xL} {z : Bool × Bool × Nat}  (h : F (some (.int (I 66 7))) (xS (xw I 66 7 0) L z)) : xCd 1 221 [.ref 66] (xS I L z) F := by
  have hd : 0 ≤ 0 := Nat.le_refl _
  exact xin_ (T := k_X9_wipe) (rt := 1) (ls := [some (.ref 66), none]) rfl rfl rfl rfl (xgo b_X9_wipe_0 h)
theorem c_X9_isLetter {F : xQ} {I : xI} {L : xL} {z : Bool × Bool × Nat} {a0 : Int32} (h : (if a0 < 97 then F (some (.int 0)) (xS I L z) else (if 122 < a0 then F (some (.int 0)) (xS I L z) else F (some (.int 1)) (xS I L z)))) : xCd 1 222 [.int a0] (xS I L z) F := by
  have hd : 0 ≤ 0 := Nat.le_refl _
  exact xin_ (T := k_X9_isLetter) (rt := 2) (ls := [some (.int a0)]) rfl rfl rfl rfl (xgo b_X9_isLetter_0 h)
abbrev p_X9_isLetter (I : xI) (L : xL) (a0 : Int32) : Prop := (¬ a0 < 97 ∧ ¬ 122 < a0)
theorem s_X9_isLetter {I : xI} {L : xL} {z : Bool × Bool × Nat} {a0 : Int32} : xCd 1 222 [.int a0] (xS I L z) (fun r τ => r = some (.int (if p_X9_isLetter I L a0 then 1 else 0)) ∧ τ = xS I L z) := by
  by_cases hp : p_X9_isLetter I L a0
  · rw [if_pos hp]
    refine c_X9_isLetter ?_
    try simp only [p_X9_isLetter] at *
    dsimp only
    repeat' split
    all_goals first | exact ⟨rfl, rfl⟩ | (exfalso; simp_all; done) | (exfalso; simp only [xin_iff, Int32.lt_iff_toInt_lt] at *; simp at *; omega) | grind
  · rw [if_neg hp]
    refine c_X9_isLetter ?_
    try simp only [p_X9_isLetter] at *
    dsimp only
    repeat' split
    all_goals first | exact ⟨rfl, rfl⟩ | (exfalso; simp_all; done) | (exfalso; simp only [xin_iff, Int32.lt_iff_toInt_lt] at *; simp at *; omega) | grind
theorem c_X9_isDigit {F : xQ} {I : xI} {L : xL} {z : Bool × Bool × Nat} {a0 : Int32} (h : (if a0 < 48 then F (some (.int 0)) (xS I L z) else (if 57 < a0 then F (some (.int 0)) (xS I L z) else F (some (.int 1)) (xS I L z)))) : xCd 1 223 [.int a0] (xS I L z) F := by
  have hd : 0 ≤ 0 := Nat.le_refl _
  exact xin_ (T := k_X9_isDigit) (rt := 2) (ls := [some (.int a0)]) rfl rfl rfl rfl (xgo b_X9_isDigit_0 h)
abbrev p_X9_isDigit (I : xI) (L : xL) (a0 : Int32) : Prop := (¬ a0 < 48 ∧ ¬ 57 < a0)
theorem s_X9_isDigit {I : xI} {L : xL} {z : Bool × Bool × Nat} {a0 : Int32} : xCd 1 223 [.int a0] (xS I L z) (fun r τ => r = some (.int (if p_X9_isDigit I L a0 then 1 else 0)) ∧ τ = xS I L z) := by
  by_cases hp : p_X9_isDigit I L a0
  · rw [if_pos hp]
    refine c_X9_isDigit ?_
    try simp only [p_X9_isDigit] at *
    dsimp only
    repeat' split
    all_goals first | exact ⟨rfl, rfl⟩ | (exfalso; simp_all; done) | (exfalso; simp only [xin_iff, Int32.lt_iff_toInt_lt] at *; simp at *; omega) | grind
  · rw [if_neg hp]
    refine c_X9_isDigit ?_
    try simp only [p_X9_isDigit] at *
    dsimp only
    repeat' split
    all_goals first | exact ⟨rfl, rfl⟩ | (exfalso; simp_all; done) | (exfalso; simp only [xin_iff, Int32.lt_iff_toInt_lt] at *; simp at *; omega) | grind
theorem c_X9_wrong {F : xQ} {I : xI} {L : xL} {z : Bool × Bool × Nat}  (h : F (some (.int 0)) (xS (xw I 66 27 (I 66 25)) L z)) : xCd 1 225 [.ref 66] (xS I L z) F := by
  have hd : 0 ≤ 0 := Nat.le_refl _
  exact xin_ (T := k_X9_wrong) (rt := 2) (ls := [some (.ref 66)]) rfl rfl rfl rfl (xgo b_X9_wrong_0 h)
theorem c_X9_sortAt {F : xQ} {I : xI} {L : xL} {z : Bool × Bool × Nat} {a1 : Int32} {a2 : Int32} (h : (if xin ((a1 * 6) + a2) (4320) then F (some (.int (I 105 (Int32.toNatClampNeg ((a1 * 6) + a2))))) (xS I L z) else False)) : xCd 1 235 [.ref 66, .int a1, .int a2] (xS I L z) F := by
  have hd : 0 ≤ 0 := Nat.le_refl _
  exact xin_ (T := k_X9_sortAt) (rt := 1) (ls := [some (.ref 66), some (.int a1), some (.int a2)]) rfl rfl rfl rfl (xgo b_X9_sortAt_0 h)
def f_X9_sortAt (I : xI) (L : xL) (a1 : Int32) (a2 : Int32) : Int32 := (if xin ((a1 * 6) + a2) (4320) then I 105 (Int32.toNatClampNeg ((a1 * 6) + a2)) else 0)
theorem s_X9_sortAt {I : xI} {L : xL} {z : Bool × Bool × Nat} {a1 : Int32} {a2 : Int32} : xCd 1 235 [.ref 66, .int a1, .int a2] (xS I L z) (fun r τ => r = some (.int (f_X9_sortAt I L a1 a2)) ∧ τ = xS I L z) := by
  unfold f_X9_sortAt
  refine c_X9_sortAt ?_
  skip
  dsimp only
  repeat' split
  all_goals first | exact ⟨rfl, rfl⟩ | (exfalso; simp_all; done) | (exfalso; simp only [xin_iff, Int32.lt_iff_toInt_lt] at *; simp at *; omega) | grind
theorem c_X9_numberAt {F : xQ} {I : xI} {L : xL} {z : Bool × Bool × Nat} {a1 : Int32} {a2 : Int32} {a3 : Int32} (h : (if xin (f_X9_sortAt I L a1 a2) (6) then (bif xisi (xS I L z) (85 + 1 + Int32.toNatClampNeg (f_X9_sortAt I L a1 a2)) then (if xin a3 (xlen z.2.2 (85 + 1 + Int32.toNatClampNeg (f_X9_sortAt I L a1 a2))) then F (some (.int (I (85 + 1 + Int32.toNatClampNeg (f_X9_sortAt I L a1 a2)) (Int32.toNatClampNeg a3)))) (xS I L z) else False) else False) else False)) : xCd 2 242 [.ref 66, .int a1, .int a2, .int a3] (xS I L z) F := by
  have hd : 1 ≤ 1 := Nat.le_refl _
  exact xin_ (T := k_X9_numberAt) (rt := 1) (ls := [some (.ref 66), some (.int a1), some (.int a2), some (.int a3)]) rfl rfl rfl rfl (xgo b_X9_numberAt_0 (xuse1 s_X9_sortAt (Nat.le_trans (by decide) hd) (xgo b_X9_numberAt_10 h)))
def f_X9_numberAt (I : xI) (L : xL) (a1 : Int32) (a2 : Int32) (a3 : Int32) : Int32 := (if xin (f_X9_sortAt I L a1 a2) (6) then (if xin a3 (xlen z.2.2 (85 + 1 + Int32.toNatClampNeg (f_X9_sortAt I L a1 a2))) then I (85 + 1 + Int32.toNatClampNeg (f_X9_sortAt I L a1 a2)) (Int32.toNatClampNeg a3) else 0) else 0)
theorem s_X9_numberAt {I : xI} {L : xL} {z : Bool × Bool × Nat} {a1 : Int32} {a2 : Int32} {a3 : Int32} : xCd 2 242 [.ref 66, .int a1, .int a2, .int a3] (xS I L z) (fun r τ => r = some (.int (f_X9_numberAt I L a1 a2 a3)) ∧ τ = xS I L z) := by
  unfold f_X9_numberAt
  refine c_X9_numberAt ?_
  skip
  dsimp only
  repeat' split
  all_goals first | exact ⟨rfl, rfl⟩ | (exfalso; simp_all; done) | (exfalso; simp only [xin_iff, Int32.lt_iff_toInt_lt] at *; simp at *; omega) | grind
theorem c_X9_isWrong {F : xQ} {I : xI} {L : xL} {z : Bool × Bool × Nat} {a1 : Int32} {a2 : Int32} (h : (if xin a1 (6) then (if (I 92 (Int32.toNatClampNeg a1)) = (-1 : Int32) then F (some (.int 0)) (xS I L z) else (if xin a1 (6) then (if (I 92 (Int32.toNatClampNeg a1)) = a2 then F (some (.int 0)) (xS I L z) else F (some (.int 1)) (xS I L z)) else False)) else False)) : xCd 1 266 [.ref 66, .int a1, .int a2] (xS I L z) F := by
  have hd : 0 ≤ 0 := Nat.le_refl _
  exact xin_ (T := k_X9_isWrong) (rt := 2) (ls := [some (.ref 66), some (.int a1), some (.int a2)]) rfl rfl rfl rfl (xgo b_X9_isWrong_0 h)
abbrev p_X9_isWrong (I : xI) (L : xL) (a1 : Int32) (a2 : Int32) : Prop := (xin a1 (6) ∧ (¬ (I 92 (Int32.toNatClampNeg a1)) = (-1 : Int32) ∧ (xin a1 (6) ∧ ¬ (I 92 (Int32.toNatClampNeg a1)) = a2)))
theorem s_X9_isWrong {I : xI} {L : xL} {z : Bool × Bool × Nat} {a1 : Int32} {a2 : Int32} : xCd 1 266 [.ref 66, .int a1, .int a2] (xS I L z) (fun r τ => r = some (.int (if p_X9_isWrong I L a1 a2 then 1 else 0)) ∧ τ = xS I L z) := by
  by_cases hp : p_X9_isWrong I L a1 a2
  · rw [if_pos hp]
    refine c_X9_isWrong ?_
    try simp only [p_X9_isWrong] at *
    dsimp only
    repeat' split
    all_goals first | exact ⟨rfl, rfl⟩ | (exfalso; simp_all; done) | (exfalso; simp only [xin_iff, Int32.lt_iff_toInt_lt] at *; simp at *; omega) | grind
  · rw [if_neg hp]
    refine c_X9_isWrong ?_
    try simp only [p_X9_isWrong] at *
    dsimp only
    repeat' split
    all_goals first | exact ⟨rfl, rfl⟩ | (exfalso; simp_all; done) | (exfalso; simp only [xin_iff, Int32.lt_iff_toInt_lt] at *; simp at *; omega) | grind
theorem c_X9_looks {F : xQ} {I : xI} {L : xL} {z : Bool × Bool × Nat} {a1 : Int32} {a2 : Int32} (h : (if xin a1 (6) then (if xin a1 (6) then (if xin (I 84 (Int32.toNatClampNeg a1)) (6) then (bif xisi (xS I L z) (85 + 1 + Int32.toNatClampNeg (I 84 (Int32.toNatClampNeg a1))) then (if xin a2 (xlen z.2.2 (85 + 1 + Int32.toNatClampNeg (I 84 (Int32.toNatClampNeg a1)))) then (bif xis (xS I L z) (94 + 1 + Int32.toNatClampNeg a1) 20 && Nat.blt 8 (94 + 1 + Int32.toNatClampNeg a1) then (if xin a2 (xlen z.2.2 (94 + 1 + Int32.toNatClampNeg a1)) then (if xin a1 (6) then (bif xisi (xS (xw I (94 + 1 + Int32.toNatClampNeg a1) (Int32.toNatClampNeg a2) (I (85 + 1 + Int32.toNatClampNeg (I 84 (Int32.toNatClampNeg a1))) (Int32.toNatClampNeg a2))) L z) (94 + 1 + Int32.toNatClampNeg a1) then (if xin a2 (xlen z.2.2 (94 + 1 + Int32.toNatClampNeg a1)) then F (some (.int ((xw I (94 + 1 + Int32.toNatClampNeg a1) (Int32.toNatClampNeg a2) (I (85 + 1 + Int32.toNatClampNeg (I 84 (Int32.toNatClampNeg a1))) (Int32.toNatClampNeg a2))) (94 + 1 + Int32.toNatClampNeg a1) (Int32.toNatClampNeg a2)))) (xS (xw I (94 + 1 + Int32.toNatClampNeg a1) (Int32.toNatClampNeg a2) (I (85 + 1 + Int32.toNatClampNeg (I 84 (Int32.toNatClampNeg a1))) (Int32.toNatClampNeg a2))) L z) else False) else False) else False) else False) else False) else False) else False) else False) else False) else False)) : xCd 1 286 [.ref 66, .int a1, .int a2] (xS I L z) F := by
  have hd : 0 ≤ 0 := Nat.le_refl _
  exact xin_ (T := k_X9_looks) (rt := 1) (ls := [some (.ref 66), some (.int a1), some (.int a2)]) rfl rfl rfl rfl (xgo b_X9_looks_0 h)
theorem c_X9_look_ {F : xQ} {I : xI} {L : xL} {z : Bool × Bool × Nat} {a1 : Int32} {a2 : Int32} (h : (if p_X9_isPlace I L (Int32.toInt64 a1) then (if p_X9_in I L (Int32.toInt64 a2) (Int64.ofNat 0) (Int64.ofNat 3) then (if xin a1 (6) then (bif xisi (xS I L z) (94 + 1 + Int32.toNatClampNeg a1) then (if xin a2 (xlen z.2.2 (94 + 1 + Int32.toNatClampNeg a1)) then (if (I (94 + 1 + Int32.toNatClampNeg a1) (Int32.toNatClampNeg a2)) = (-1 : Int32) then (if xin a1 (6) then (if xin a1 (6) then (if xin (I 84 (Int32.toNatClampNeg a1)) (6) then (bif xisi (xS I L z) (85 + 1 + Int32.toNatClampNeg (I 84 (Int32.toNatClampNeg a1))) then (if xin a2 (xlen z.2.2 (85 + 1 + Int32.toNatClampNeg (I 84 (Int32.toNatClampNeg a1)))) then (bif xis (xS I L z) (94 + 1 + Int32.toNatClampNeg a1) 20 && Nat.blt 8 (94 + 1 + Int32.toNatClampNeg a1) then (if xin a2 (xlen z.2.2 (94 + 1 + Int32.toNatClampNeg a1)) then (if xin a1 (6) then (bif xisi (xS (xw I (94 + 1 + Int32.toNatClampNeg a1) (Int32.toNatClampNeg a2) (I (85 + 1 + Int32.toNatClampNeg (I 84 (Int32.toNatClampNeg a1))) (Int32.toNatClampNeg a2))) L z) (94 + 1 + Int32.toNatClampNeg a1) then (if xin a2 (xlen z.2.2 (94 + 1 + Int32.toNatClampNeg a1)) then F (some (.int ((xw I (94 + 1 + Int32.toNatClampNeg a1) (Int32.toNatClampNeg a2) (I (85 + 1 + Int32.toNatClampNeg (I 84 (Int32.toNatClampNeg a1))) (Int32.toNatClampNeg a2))) (94 + 1 + Int32.toNatClampNeg a1) (Int32.toNatClampNeg a2)))) (xS (xw I (94 + 1 + Int32.toNatClampNeg a1) (Int32.toNatClampNeg a2) (I (85 + 1 + Int32.toNatClampNeg (I 84 (Int32.toNatClampNeg a1))) (Int32.toNatClampNeg a2))) L z) else False) else False) else False) else False) else False) else False) else False) else False) else False) else False) else (if xin a1 (6) then (if xin (I 84 (Int32.toNatClampNeg a1)) (6) then (bif xisi (xS I L z) (85 + 1 + Int32.toNatClampNeg (I 84 (Int32.toNatClampNeg a1))) then (if xin a2 (xlen z.2.2 (85 + 1 + Int32.toNatClampNeg (I 84 (Int32.toNatClampNeg a1)))) then F (some (.int (I (85 + 1 + Int32.toNatClampNeg (I 84 (Int32.toNatClampNeg a1))) (Int32.toNatClampNeg a2)))) (xS I L z) else False) else False) else False) else False)) else False) else False) else False) else (if xin (-(-2 : Int32)) (8) then (if xin (-(-2 : Int32)) (8) then F (some (.int (-2 : Int32))) (xS (xw I 82 (Int32.toNatClampNeg (-(-2 : Int32))) ((I 82 (Int32.toNatClampNeg (-(-2 : Int32)))) + 1)) L z) else False) else False)) else (if xin (-(-2 : Int32)) (8) then (if xin (-(-2 : Int32)) (8) then F (some (.int (-2 : Int32))) (xS (xw I 82 (Int32.toNatClampNeg (-(-2 : Int32))) ((I 82 (Int32.toNatClampNeg (-(-2 : Int32)))) + 1)) L z) else False) else False))) : xCd 3 287 [.ref 66, .int a1, .int a2] (xS I L z) F := by
  have hd : 2 ≤ 2 := Nat.le_refl _
  exact xin_ (T := k_X9_look_) (rt := 1) (ls := [some (.ref 66), some (.int a1), some (.int a2)]) rfl rfl rfl rfl (xgo b_X9_look__0 (xuse1 s_X9_isPlace (Nat.le_trans (by decide) hd) (xgo b_X9_look__6 (xiteB (fun c516 h516 => (xuse1 s_X9_in (Nat.le_trans (by decide) hd) (xgo b_X9_look__18 (xiteB (fun c515 h515 => (xite (fun c514 h514 => (xbif_mono (fun h513 => (xite (fun c512 h512 => (xite (fun c511 h511 => (xupD (c_X9_looks (xite (fun c506 h506 => (xite (fun c505 h505 => (xite (fun c504 h504 => (xbif_mono (fun h503 => (xite (fun c502 h502 => (xbif_mono (fun h501 => (xite (fun c500 h500 => (xite (fun c499 h499 => (xbif_mono (fun h498 => (xite (fun c497 h497 => (xgo b_X9_look__62 h497)) (fun c497 h497 => h497) h498)) h499)) (fun c499 h499 => h499) h500)) (fun c500 h500 => h500) h501)) h502)) (fun c502 h502 => h502) h503)) h504)) (fun c504 h504 => h504) h505)) (fun c505 h505 => h505) h506)) (fun c506 h506 => h506) h511)) (Nat.le_trans (by decide) hd))) (fun c511 h511 => (xite (fun c510 h510 => (xite (fun c509 h509 => (xbif_mono (fun h508 => (xite (fun c507 h507 => (xgo b_X9_look__62 h507)) (fun c507 h507 => h507) h508)) h509)) (fun c509 h509 => h509) h510)) (fun c510 h510 => h510) h511)) h512)) (fun c512 h512 => h512) h513)) h514)) (fun c514 h514 => h514) h515)) (fun c515 h515 => (xupD (c_X9_refuse (xite (fun c496 h496 => (xite (fun c495 h495 => (xgo b_X9_look__27 h495)) (fun c495 h495 => h495) h496)) (fun c496 h496 => h496) h515)) (Nat.le_trans (by decide) hd))) h516)))) (fun c516 h516 => (xupD (c_X9_refuse (xite (fun c494 h494 => (xite (fun c493 h493 => (xgo b_X9_look__27 h493)) (fun c493 h493 => h493) h494)) (fun c494 h494 => h494) h516)) (Nat.le_trans (by decide) hd))) h))))
theorem c_X9_below {F : xQ} {I : xI} {L : xL} {z : Bool × Bool × Nat} {a1 : Int32} (h : (if a1 = 0 then False else F (some (.int (((Int32.toUInt32 ((xw I 66 20 (((I 66 20) * 1103515245) + 12345)) 66 20) >>> (Int32.toUInt32 16 &&& Int32.toUInt32 31)).toInt32) - ((Int32.toUInt32 ((xw I 66 20 (((I 66 20) * 1103515245) + 12345)) 66 20) >>> (Int32.toUInt32 16 &&& Int32.toUInt32 31)).toInt32) / a1 * a1))) (xS (xw I 66 20 (((I 66 20) * 1103515245) + 12345)) L z))) : xCd 1 289 [.ref 66, .int a1] (xS I L z) F := by
  have hd : 0 ≤ 0 := Nat.le_refl _
  exact xin_ (T := k_X9_below) (rt := 1) (ls := [some (.ref 66), some (.int a1)]) rfl rfl rfl rfl (xgo b_X9_below_0 h)
theorem c_X9_stands {F : xQ} {I : xI} {L : xL} {z : Bool × Bool × Nat} {a1 : Int32} (h : (if p_X9_isPlace I L (Int32.toInt64 a1) then (if xin a1 (6) then F (some (.int (I 84 (Int32.toNatClampNeg a1)))) (xS I L z) else False) else (if xin (-(-2 : Int32)) (8) then (if xin (-(-2 : Int32)) (8) then F (some (.int (-2 : Int32))) (xS (xw I 82 (Int32.toNatClampNeg (-(-2 : Int32))) ((I 82 (Int32.toNatClampNeg (-(-2 : Int32)))) + 1)) L z) else False) else False))) : xCd 3 292 [.ref 66, .int a1] (xS I L z) F := by
  have hd : 2 ≤ 2 := Nat.le_refl _
  exact xin_ (T := k_X9_stands) (rt := 1) (ls := [some (.ref 66), some (.int a1)]) rfl rfl rfl rfl (xgo b_X9_stands_0 (xuse1 s_X9_isPlace (Nat.le_trans (by decide) hd) (xgo b_X9_stands_6 (xiteB (fun c521 h521 => (xite (fun c520 h520 => (xgo b_X9_stands_24 h520)) (fun c520 h520 => h520) h521)) (fun c521 h521 => (xupD (c_X9_refuse (xite (fun c519 h519 => (xite (fun c518 h518 => (xgo b_X9_stands_24 h518)) (fun c518 h518 => h518) h519)) (fun c519 h519 => h519) h521)) (Nat.le_trans (by decide) hd))) h))))
theorem c_X9_seed {F : xQ} {I : xI} {L : xL} {z : Bool × Bool × Nat} {a1 : Int32} (h : F (some (.int (I 66 20))) (xS (xw I 66 20 a1) L z)) : xCd 1 293 [.ref 66, .int a1] (xS I L z) F := by
  have hd : 0 ≤ 0 := Nat.le_refl _
  exact xin_ (T := k_X9_seed) (rt := 1) (ls := [some (.ref 66), some (.int a1), none]) rfl rfl rfl rfl (xgo b_X9_seed_0 h)
theorem c_J6_bitCount_0f7a4 {F : xQ} {I : xI} {L : xL} {z : Bool × Bool × Nat} {a0 : Int32} (h : F (some (.int ((((((((a0 - (((Int32.toUInt32 a0 >>> (Int32.toUInt32 1 &&& Int32.toUInt32 31)).toInt32) &&& 1431655765)) &&& 858993459) + (((Int32.toUInt32 (a0 - (((Int32.toUInt32 a0 >>> (Int32.toUInt32 1 &&& Int32.toUInt32 31)).toInt32) &&& 1431655765)) >>> (Int32.toUInt32 2 &&& Int32.toUInt32 31)).toInt32) &&& 858993459)) + ((Int32.toUInt32 (((a0 - (((Int32.toUInt32 a0 >>> (Int32.toUInt32 1 &&& Int32.toUInt32 31)).toInt32) &&& 1431655765)) &&& 858993459) + (((Int32.toUInt32 (a0 - (((Int32.toUInt32 a0 >>> (Int32.toUInt32 1 &&& Int32.toUInt32 31)).toInt32) &&& 1431655765)) >>> (Int32.toUInt32 2 &&& Int32.toUInt32 31)).toInt32) &&& 858993459)) >>> (Int32.toUInt32 4 &&& Int32.toUInt32 31)).toInt32)) &&& 252645135) + ((Int32.toUInt32 (((((a0 - (((Int32.toUInt32 a0 >>> (Int32.toUInt32 1 &&& Int32.toUInt32 31)).toInt32) &&& 1431655765)) &&& 858993459) + (((Int32.toUInt32 (a0 - (((Int32.toUInt32 a0 >>> (Int32.toUInt32 1 &&& Int32.toUInt32 31)).toInt32) &&& 1431655765)) >>> (Int32.toUInt32 2 &&& Int32.toUInt32 31)).toInt32) &&& 858993459)) + ((Int32.toUInt32 (((a0 - (((Int32.toUInt32 a0 >>> (Int32.toUInt32 1 &&& Int32.toUInt32 31)).toInt32) &&& 1431655765)) &&& 858993459) + (((Int32.toUInt32 (a0 - (((Int32.toUInt32 a0 >>> (Int32.toUInt32 1 &&& Int32.toUInt32 31)).toInt32) &&& 1431655765)) >>> (Int32.toUInt32 2 &&& Int32.toUInt32 31)).toInt32) &&& 858993459)) >>> (Int32.toUInt32 4 &&& Int32.toUInt32 31)).toInt32)) &&& 252645135) >>> (Int32.toUInt32 8 &&& Int32.toUInt32 31)).toInt32)) + ((Int32.toUInt32 ((((((a0 - (((Int32.toUInt32 a0 >>> (Int32.toUInt32 1 &&& Int32.toUInt32 31)).toInt32) &&& 1431655765)) &&& 858993459) + (((Int32.toUInt32 (a0 - (((Int32.toUInt32 a0 >>> (Int32.toUInt32 1 &&& Int32.toUInt32 31)).toInt32) &&& 1431655765)) >>> (Int32.toUInt32 2 &&& Int32.toUInt32 31)).toInt32) &&& 858993459)) + ((Int32.toUInt32 (((a0 - (((Int32.toUInt32 a0 >>> (Int32.toUInt32 1 &&& Int32.toUInt32 31)).toInt32) &&& 1431655765)) &&& 858993459) + (((Int32.toUInt32 (a0 - (((Int32.toUInt32 a0 >>> (Int32.toUInt32 1 &&& Int32.toUInt32 31)).toInt32) &&& 1431655765)) >>> (Int32.toUInt32 2 &&& Int32.toUInt32 31)).toInt32) &&& 858993459)) >>> (Int32.toUInt32 4 &&& Int32.toUInt32 31)).toInt32)) &&& 252645135) + ((Int32.toUInt32 (((((a0 - (((Int32.toUInt32 a0 >>> (Int32.toUInt32 1 &&& Int32.toUInt32 31)).toInt32) &&& 1431655765)) &&& 858993459) + (((Int32.toUInt32 (a0 - (((Int32.toUInt32 a0 >>> (Int32.toUInt32 1 &&& Int32.toUInt32 31)).toInt32) &&& 1431655765)) >>> (Int32.toUInt32 2 &&& Int32.toUInt32 31)).toInt32) &&& 858993459)) + ((Int32.toUInt32 (((a0 - (((Int32.toUInt32 a0 >>> (Int32.toUInt32 1 &&& Int32.toUInt32 31)).toInt32) &&& 1431655765)) &&& 858993459) + (((Int32.toUInt32 (a0 - (((Int32.toUInt32 a0 >>> (Int32.toUInt32 1 &&& Int32.toUInt32 31)).toInt32) &&& 1431655765)) >>> (Int32.toUInt32 2 &&& Int32.toUInt32 31)).toInt32) &&& 858993459)) >>> (Int32.toUInt32 4 &&& Int32.toUInt32 31)).toInt32)) &&& 252645135) >>> (Int32.toUInt32 8 &&& Int32.toUInt32 31)).toInt32)) >>> (Int32.toUInt32 16 &&& Int32.toUInt32 31)).toInt32)) &&& 63))) (xS I L z)) : xCd 1 299 [.int a0] (xS I L z) F := by
  have hd : 0 ≤ 0 := Nat.le_refl _
  exact xin_ (T := k_J6_bitCount_0f7a4) (rt := 1) (ls := [some (.int a0)]) rfl rfl rfl rfl (xgo b_J6_bitCount_0f7a4_0 h)
def f_J6_bitCount_0f7a4 (I : xI) (L : xL) (a0 : Int32) : Int32 := (((((((a0 - (((Int32.toUInt32 a0 >>> (Int32.toUInt32 1 &&& Int32.toUInt32 31)).toInt32) &&& 1431655765)) &&& 858993459) + (((Int32.toUInt32 (a0 - (((Int32.toUInt32 a0 >>> (Int32.toUInt32 1 &&& Int32.toUInt32 31)).toInt32) &&& 1431655765)) >>> (Int32.toUInt32 2 &&& Int32.toUInt32 31)).toInt32) &&& 858993459)) + ((Int32.toUInt32 (((a0 - (((Int32.toUInt32 a0 >>> (Int32.toUInt32 1 &&& Int32.toUInt32 31)).toInt32) &&& 1431655765)) &&& 858993459) + (((Int32.toUInt32 (a0 - (((Int32.toUInt32 a0 >>> (Int32.toUInt32 1 &&& Int32.toUInt32 31)).toInt32) &&& 1431655765)) >>> (Int32.toUInt32 2 &&& Int32.toUInt32 31)).toInt32) &&& 858993459)) >>> (Int32.toUInt32 4 &&& Int32.toUInt32 31)).toInt32)) &&& 252645135) + ((Int32.toUInt32 (((((a0 - (((Int32.toUInt32 a0 >>> (Int32.toUInt32 1 &&& Int32.toUInt32 31)).toInt32) &&& 1431655765)) &&& 858993459) + (((Int32.toUInt32 (a0 - (((Int32.toUInt32 a0 >>> (Int32.toUInt32 1 &&& Int32.toUInt32 31)).toInt32) &&& 1431655765)) >>> (Int32.toUInt32 2 &&& Int32.toUInt32 31)).toInt32) &&& 858993459)) + ((Int32.toUInt32 (((a0 - (((Int32.toUInt32 a0 >>> (Int32.toUInt32 1 &&& Int32.toUInt32 31)).toInt32) &&& 1431655765)) &&& 858993459) + (((Int32.toUInt32 (a0 - (((Int32.toUInt32 a0 >>> (Int32.toUInt32 1 &&& Int32.toUInt32 31)).toInt32) &&& 1431655765)) >>> (Int32.toUInt32 2 &&& Int32.toUInt32 31)).toInt32) &&& 858993459)) >>> (Int32.toUInt32 4 &&& Int32.toUInt32 31)).toInt32)) &&& 252645135) >>> (Int32.toUInt32 8 &&& Int32.toUInt32 31)).toInt32)) + ((Int32.toUInt32 ((((((a0 - (((Int32.toUInt32 a0 >>> (Int32.toUInt32 1 &&& Int32.toUInt32 31)).toInt32) &&& 1431655765)) &&& 858993459) + (((Int32.toUInt32 (a0 - (((Int32.toUInt32 a0 >>> (Int32.toUInt32 1 &&& Int32.toUInt32 31)).toInt32) &&& 1431655765)) >>> (Int32.toUInt32 2 &&& Int32.toUInt32 31)).toInt32) &&& 858993459)) + ((Int32.toUInt32 (((a0 - (((Int32.toUInt32 a0 >>> (Int32.toUInt32 1 &&& Int32.toUInt32 31)).toInt32) &&& 1431655765)) &&& 858993459) + (((Int32.toUInt32 (a0 - (((Int32.toUInt32 a0 >>> (Int32.toUInt32 1 &&& Int32.toUInt32 31)).toInt32) &&& 1431655765)) >>> (Int32.toUInt32 2 &&& Int32.toUInt32 31)).toInt32) &&& 858993459)) >>> (Int32.toUInt32 4 &&& Int32.toUInt32 31)).toInt32)) &&& 252645135) + ((Int32.toUInt32 (((((a0 - (((Int32.toUInt32 a0 >>> (Int32.toUInt32 1 &&& Int32.toUInt32 31)).toInt32) &&& 1431655765)) &&& 858993459) + (((Int32.toUInt32 (a0 - (((Int32.toUInt32 a0 >>> (Int32.toUInt32 1 &&& Int32.toUInt32 31)).toInt32) &&& 1431655765)) >>> (Int32.toUInt32 2 &&& Int32.toUInt32 31)).toInt32) &&& 858993459)) + ((Int32.toUInt32 (((a0 - (((Int32.toUInt32 a0 >>> (Int32.toUInt32 1 &&& Int32.toUInt32 31)).toInt32) &&& 1431655765)) &&& 858993459) + (((Int32.toUInt32 (a0 - (((Int32.toUInt32 a0 >>> (Int32.toUInt32 1 &&& Int32.toUInt32 31)).toInt32) &&& 1431655765)) >>> (Int32.toUInt32 2 &&& Int32.toUInt32 31)).toInt32) &&& 858993459)) >>> (Int32.toUInt32 4 &&& Int32.toUInt32 31)).toInt32)) &&& 252645135) >>> (Int32.toUInt32 8 &&& Int32.toUInt32 31)).toInt32)) >>> (Int32.toUInt32 16 &&& Int32.toUInt32 31)).toInt32)) &&& 63
theorem s_J6_bitCount_0f7a4 {I : xI} {L : xL} {z : Bool × Bool × Nat} {a0 : Int32} : xCd 1 299 [.int a0] (xS I L z) (fun r τ => r = some (.int (f_J6_bitCount_0f7a4 I L a0)) ∧ τ = xS I L z) := by
  unfold f_J6_bitCount_0f7a4
  refine c_J6_bitCount_0f7a4 ?_
  skip
  dsimp only
  repeat' split
  all_goals first | exact ⟨rfl, rfl⟩ | (exfalso; simp_all; done) | (exfalso; simp only [xin_iff, Int32.lt_iff_toInt_lt] at *; simp at *; omega) | grind
theorem c_X0_wrongWorlds {F : xQ} {I : xI} {L : xL} {z : Bool × Bool × Nat} {a1 : Int32} {a2 : Int32} (h : (if (f_X6_wantOf I L a1) = (-1 : Int32) then F (some (.int 0)) (xS I L z) else F (some (.int ((I 37 1) - (f_X7_howManyStand I L a2 (f_X6_wantOf I L a1))))) (xS I L z))) : xCd 2 2 [.ref 50, .int a1, .int a2] (xS I L z) F := by
  have hd : 1 ≤ 1 := Nat.le_refl _
  exact xin_ (T := k_X0_wrongWorlds) (rt := 1) (ls := [some (.ref 50), some (.int a1), some (.int a2), none]) rfl rfl rfl rfl (xgo b_X0_wrongWorlds_0 (xuse1 s_X6_wantOf (Nat.le_trans (by decide) hd) (xgo b_X0_wrongWorlds_8 (xite (fun c522 h522 => h522) (fun c522 h522 => (xuse1 s_X7_howManyStand (Nat.le_trans (by decide) hd) (xgo b_X0_wrongWorlds_34 h522))) h))))
def f_X0_wrongWorlds (I : xI) (L : xL) (a1 : Int32) (a2 : Int32) : Int32 := (if (f_X6_wantOf I L a1) = (-1 : Int32) then 0 else (I 37 1) - (f_X7_howManyStand I L a2 (f_X6_wantOf I L a1)))
theorem s_X0_wrongWorlds {I : xI} {L : xL} {z : Bool × Bool × Nat} {a1 : Int32} {a2 : Int32} : xCd 2 2 [.ref 50, .int a1, .int a2] (xS I L z) (fun r τ => r = some (.int (f_X0_wrongWorlds I L a1 a2)) ∧ τ = xS I L z) := by
  unfold f_X0_wrongWorlds
  refine c_X0_wrongWorlds ?_
  skip
  dsimp only
  repeat' split
  all_goals first | exact ⟨rfl, rfl⟩ | (exfalso; simp_all; done) | (exfalso; simp only [xin_iff, Int32.lt_iff_toInt_lt] at *; simp at *; omega) | grind
theorem c_X0_suits {F : xQ} {I : xI} {L : xL} {z : Bool × Bool × Nat} {a1 : Int32} {a2 : Int32} (h : (if (f_X6_wantOf I L a1) = (-1 : Int32) then F (some (.int 1)) (xS I L z) else (if (f_X6_truthAt I L a2) = (f_X6_wantOf I L a1) then F (some (.int 1)) (xS I L z) else F (some (.int 0)) (xS I L z)))) : xCd 2 3 [.ref 50, .int a1, .int a2] (xS I L z) F := by
  have hd : 1 ≤ 1 := Nat.le_refl _
  exact xin_ (T := k_X0_suits) (rt := 2) (ls := [some (.ref 50), some (.int a1), some (.int a2), none]) rfl rfl rfl rfl (xgo b_X0_suits_0 (xuse1 s_X6_wantOf (Nat.le_trans (by decide) hd) (xgo b_X0_suits_8 (xite (fun c524 h524 => h524) (fun c524 h524 => (xuse1 s_X6_truthAt (Nat.le_trans (by decide) hd) (xgo b_X0_suits_22 h524))) h))))
abbrev p_X0_suits (I : xI) (L : xL) (a1 : Int32) (a2 : Int32) : Prop := ((f_X6_wantOf I L a1) = (-1 : Int32) ∨ (f_X6_truthAt I L a2) = (f_X6_wantOf I L a1))
theorem s_X0_suits {I : xI} {L : xL} {z : Bool × Bool × Nat} {a1 : Int32} {a2 : Int32} : xCd 2 3 [.ref 50, .int a1, .int a2] (xS I L z) (fun r τ => r = some (.int (if p_X0_suits I L a1 a2 then 1 else 0)) ∧ τ = xS I L z) := by
  by_cases hp : p_X0_suits I L a1 a2
  · rw [if_pos hp]
    refine c_X0_suits ?_
    try simp only [p_X0_suits] at *
    dsimp only
    repeat' split
    all_goals first | exact ⟨rfl, rfl⟩ | (exfalso; simp_all; done) | (exfalso; simp only [xin_iff, Int32.lt_iff_toInt_lt] at *; simp at *; omega) | grind
  · rw [if_neg hp]
    refine c_X0_suits ?_
    try simp only [p_X0_suits] at *
    dsimp only
    repeat' split
    all_goals first | exact ⟨rfl, rfl⟩ | (exfalso; simp_all; done) | (exfalso; simp only [xin_iff, Int32.lt_iff_toInt_lt] at *; simp at *; omega) | grind
theorem c_X0_holderOfTaken {F : xQ} {I : xI} {L : xL} {z : Bool × Bool × Nat} {a1 : Int32} (h : (if a1 < 0 then (if p_X6_hasPlace I L (-1 : Int32) then (if xin (-1 : Int32) (6) then F (some (.int (I 54 (Int32.toNatClampNeg (-1 : Int32))))) (xS I L z) else False) else F (some (.int 0)) (xS I L z)) else (if a1 < 6 then (if xin a1 (6) then (if p_X6_hasPlace I L (I 55 (Int32.toNatClampNeg a1)) then (if xin (I 55 (Int32.toNatClampNeg a1)) (6) then F (some (.int (I 54 (Int32.toNatClampNeg (I 55 (Int32.toNatClampNeg a1)))))) (xS I L z) else False) else F (some (.int 0)) (xS I L z)) else False) else (if p_X6_hasPlace I L (-1 : Int32) then (if xin (-1 : Int32) (6) then F (some (.int (I 54 (Int32.toNatClampNeg (-1 : Int32))))) (xS I L z) else False) else F (some (.int 0)) (xS I L z))))) : xCd 2 9 [.ref 50, .int a1] (xS I L z) F := by
  have hd : 1 ≤ 1 := Nat.le_refl _
  exact xin_ (T := k_X0_holderOfTaken) (rt := 1) (ls := [some (.ref 50), some (.int a1), none]) rfl rfl rfl rfl (xgo b_X0_holderOfTaken_0 (xite (fun c533 h533 => (xuse1 s_X6_hasPlace (Nat.le_trans (by decide) hd) (xgo b_X0_holderOfTaken_32 (xiteB (fun c526 h526 => h526) (fun c526 h526 => h526) h533)))) (fun c533 h533 => (xite (fun c532 h532 => (xite (fun c529 h529 => (xuse1 s_X6_hasPlace (Nat.le_trans (by decide) hd) (xgo b_X0_holderOfTaken_32 (xiteB (fun c528 h528 => h528) (fun c528 h528 => h528) h529)))) (fun c529 h529 => h529) h532)) (fun c532 h532 => (xuse1 s_X6_hasPlace (Nat.le_trans (by decide) hd) (xgo b_X0_holderOfTaken_32 (xiteB (fun c531 h531 => h531) (fun c531 h531 => h531) h532)))) h533)) h))
def f_X0_holderOfTaken (I : xI) (L : xL) (a1 : Int32) : Int32 := (if a1 < 0 then (if p_X6_hasPlace I L (-1 : Int32) then (if xin (-1 : Int32) (6) then I 54 (Int32.toNatClampNeg (-1 : Int32)) else 0) else 0) else (if a1 < 6 then (if xin a1 (6) then (if p_X6_hasPlace I L (I 55 (Int32.toNatClampNeg a1)) then (if xin (I 55 (Int32.toNatClampNeg a1)) (6) then I 54 (Int32.toNatClampNeg (I 55 (Int32.toNatClampNeg a1))) else 0) else 0) else 0) else (if p_X6_hasPlace I L (-1 : Int32) then (if xin (-1 : Int32) (6) then I 54 (Int32.toNatClampNeg (-1 : Int32)) else 0) else 0)))
theorem s_X0_holderOfTaken {I : xI} {L : xL} {z : Bool × Bool × Nat} {a1 : Int32} : xCd 2 9 [.ref 50, .int a1] (xS I L z) (fun r τ => r = some (.int (f_X0_holderOfTaken I L a1)) ∧ τ = xS I L z) := by
  unfold f_X0_holderOfTaken
  refine c_X0_holderOfTaken ?_
  try simp only [p_X6_hasPlace] at *
  dsimp only
  repeat' split
  all_goals first | exact ⟨rfl, rfl⟩ | (exfalso; simp_all; done) | (exfalso; simp only [xin_iff, Int32.lt_iff_toInt_lt] at *; simp at *; omega) | grind
theorem c_X2_putElement {F : xQ} {I : xI} {L : xL} {z : Bool × Bool × Nat} {a1 : Int32} {a2 : Int32} {a3 : Int64} (h : (if p_X2_hasElement I L a1 a2 then (if xin a1 (8) then (if xin ((a1 * 40) + a2) (320) then F none (xS I (xwl L 60 (Int32.toNatClampNeg ((a1 * 40) + a2)) (f_X2_cutTo I L (I 58 (Int32.toNatClampNeg a1)) a3)) z) else False) else False) else F none (xS I L z))) : xCd 3 46 [.ref 57, .int a1, .int a2, .long a3] (xS I L z) F := by
  have hd : 2 ≤ 2 := Nat.le_refl _
  exact xin_ (T := k_X2_putElement) (rt := 0) (ls := [some (.ref 57), some (.int a1), some (.int a2), some (.long a3), none]) rfl rfl rfl rfl (xgo b_X2_putElement_0 (xuse1 s_X2_hasElement (Nat.le_trans (by decide) hd) (xgo b_X2_putElement_6 (xiteB (fun c536 h536 => (xite (fun c535 h535 => (xuse1 s_X2_cutTo (Nat.le_trans (by decide) hd) (xgo b_X2_putElement_29 h535))) (fun c535 h535 => h535) h536)) (fun c536 h536 => h536) h))))
theorem c_X8_set {F : xQ} {I : xI} {L : xL} {z : Bool × Bool × Nat} {a1 : Int32} {a2 : Int32} {a3 : Int64} (h : (if (f_X2_faultOfRow I L a1) = 0 then (if p_X2_hasElement I L a1 a2 then (if p_X2_hasElement I L a1 a2 then (if xin a1 (8) then (if xin ((a1 * 40) + a2) (320) then F (some (.int 1)) (xS I (xwl L 60 (Int32.toNatClampNeg ((a1 * 40) + a2)) (f_X2_cutTo I L (I 58 (Int32.toNatClampNeg a1)) a3)) z) else False) else False) else F (some (.int 1)) (xS I L z)) else (if ((-2 : Int32) - (-2 : Int32)) < 0 then F (some (.int (-2 : Int32))) (xS I L z) else (if ((-2 : Int32) - (-2 : Int32)) < 5 then (if xin ((-2 : Int32) - (-2 : Int32)) (5) then (if xin ((-2 : Int32) - (-2 : Int32)) (5) then F (some (.int (-2 : Int32))) (xS (xw I 65 (Int32.toNatClampNeg ((-2 : Int32) - (-2 : Int32))) ((I 65 (Int32.toNatClampNeg ((-2 : Int32) - (-2 : Int32)))) + 1)) L z) else False) else False) else F (some (.int (-2 : Int32))) (xS I L z)))) else (if ((-2 : Int32) - (f_X2_faultOfRow I L a1)) < 0 then F (some (.int (f_X2_faultOfRow I L a1))) (xS I L z) else (if ((-2 : Int32) - (f_X2_faultOfRow I L a1)) < 5 then (if xin ((-2 : Int32) - (f_X2_faultOfRow I L a1)) (5) then (if xin ((-2 : Int32) - (f_X2_faultOfRow I L a1)) (5) then F (some (.int (f_X2_faultOfRow I L a1))) (xS (xw I 65 (Int32.toNatClampNeg ((-2 : Int32) - (f_X2_faultOfRow I L a1))) ((I 65 (Int32.toNatClampNeg ((-2 : Int32) - (f_X2_faultOfRow I L a1)))) + 1)) L z) else False) else False) else F (some (.int (f_X2_faultOfRow I L a1))) (xS I L z))))) : xCd 4 134 [.ref 9, .int a1, .int a2, .long a3] (xS I L z) F := by
  have hd : 3 ≤ 3 := Nat.le_refl _
  exact xin_ (T := k_X8_set) (rt := 1) (ls := [some (.ref 9), some (.int a1), some (.int a2), some (.long a3), none, none]) rfl rfl rfl rfl (xgo b_X8_set_0 (xuse1 s_X2_faultOfRow (Nat.le_trans (by decide) hd) (xgo b_X8_set_8 (xite (fun c575 h575 => (xuse1 s_X2_hasElement (Nat.le_trans (by decide) hd) (xgo b_X8_set_31 (xiteB (fun c570 h570 => (xupD (c_X2_putElement (xite (fun c569 h569 => (xite (fun c568 h568 => (xite (fun c567 h567 => (xgo b_X8_set_51 h567)) (fun c567 h567 => h567) h568)) (fun c568 h568 => h568) h569)) (fun c569 h569 => (xgo b_X8_set_51 h569)) h570)) (Nat.le_trans (by decide) hd))) (fun c570 h570 => (xupD (c_X8_refuse (xite (fun c566 h566 => (xgo b_X8_set_40 h566)) (fun c566 h566 => (xite (fun c565 h565 => (xite (fun c564 h564 => (xite (fun c563 h563 => (xgo b_X8_set_40 h563)) (fun c563 h563 => h563) h564)) (fun c564 h564 => h564) h565)) (fun c565 h565 => (xgo b_X8_set_40 h565)) h566)) h570)) (Nat.le_trans (by decide) hd))) h575)))) (fun c575 h575 => (xupD (c_X8_refuse (xite (fun c574 h574 => (xgo b_X8_set_21 h574)) (fun c574 h574 => (xite (fun c573 h573 => (xite (fun c572 h572 => (xite (fun c571 h571 => (xgo b_X8_set_21 h571)) (fun c571 h571 => h571) h572)) (fun c572 h572 => h572) h573)) (fun c573 h573 => (xgo b_X8_set_21 h573)) h574)) h575)) (Nat.le_trans (by decide) hd))) h))))
theorem c_X8_copy {F : xQ} {I : xI} {L : xL} {z : Bool × Bool × Nat} {a1 : Int32} {a2 : Int32} {a3 : Int32} {a4 : Int32} {a5 : Int32} (h : (if (f_X2_faultOfPair I L a1 a2) = 0 then (if p_X2_hasElements I L a1 a3 a5 then (if p_X2_hasElements I L a2 a4 a5 then (if p_X2_hasElements I L a1 a3 a5 then (if p_X2_hasElements I L a2 a4 a5 then (if xcpOK a5 ((a2 * 40) + a4) ((a1 * 40) + a3) (320) (320) then F (some (.int a5)) (xS I (xcpl L (60) (Int32.toNatClampNeg ((a1 * 40) + a3)) (60) (Int32.toNatClampNeg ((a2 * 40) + a4)) (Int32.toNatClampNeg a5)) z) else False) else F (some (.int a5)) (xS I L z)) else F (some (.int a5)) (xS I L z)) else (if ((-2 : Int32) - (-2 : Int32)) < 0 then F (some (.int (-2 : Int32))) (xS I L z) else (if ((-2 : Int32) - (-2 : Int32)) < 5 then (if xin ((-2 : Int32) - (-2 : Int32)) (5) then (if xin ((-2 : Int32) - (-2 : Int32)) (5) then F (some (.int (-2 : Int32))) (xS (xw I 65 (Int32.toNatClampNeg ((-2 : Int32) - (-2 : Int32))) ((I 65 (Int32.toNatClampNeg ((-2 : Int32) - (-2 : Int32)))) + 1)) L z) else False) else False) else F (some (.int (-2 : Int32))) (xS I L z)))) else (if ((-2 : Int32) - (-2 : Int32)) < 0 then F (some (.int (-2 : Int32))) (xS I L z) else (if ((-2 : Int32) - (-2 : Int32)) < 5 then (if xin ((-2 : Int32) - (-2 : Int32)) (5) then (if xin ((-2 : Int32) - (-2 : Int32)) (5) then F (some (.int (-2 : Int32))) (xS (xw I 65 (Int32.toNatClampNeg ((-2 : Int32) - (-2 : Int32))) ((I 65 (Int32.toNatClampNeg ((-2 : Int32) - (-2 : Int32)))) + 1)) L z) else False) else False) else F (some (.int (-2 : Int32))) (xS I L z)))) else (if ((-2 : Int32) - (f_X2_faultOfPair I L a1 a2)) < 0 then F (some (.int (f_X2_faultOfPair I L a1 a2))) (xS I L z) else (if ((-2 : Int32) - (f_X2_faultOfPair I L a1 a2)) < 5 then (if xin ((-2 : Int32) - (f_X2_faultOfPair I L a1 a2)) (5) then (if xin ((-2 : Int32) - (f_X2_faultOfPair I L a1 a2)) (5) then F (some (.int (f_X2_faultOfPair I L a1 a2))) (xS (xw I 65 (Int32.toNatClampNeg ((-2 : Int32) - (f_X2_faultOfPair I L a1 a2))) ((I 65 (Int32.toNatClampNeg ((-2 : Int32) - (f_X2_faultOfPair I L a1 a2)))) + 1)) L z) else False) else False) else F (some (.int (f_X2_faultOfPair I L a1 a2))) (xS I L z))))) : xCd 4 135 [.ref 9, .int a1, .int a2, .int a3, .int a4, .int a5] (xS I L z) F := by
  have hd : 3 ≤ 3 := Nat.le_refl _
  exact xin_ (T := k_X8_copy) (rt := 1) (ls := [some (.ref 9), some (.int a1), some (.int a2), some (.int a3), some (.int a4), some (.int a5), none]) rfl rfl rfl rfl (xgo b_X8_copy_0 (xuse1 s_X2_faultOfPair (Nat.le_trans (by decide) hd) (xgo b_X8_copy_9 (xite (fun c593 h593 => (xuse1 s_X2_hasElements (Nat.le_trans (by decide) hd) (xgo b_X8_copy_34 (xiteB (fun c588 h588 => (xuse1 s_X2_hasElements (Nat.le_trans (by decide) hd) (xgo b_X8_copy_49 (xiteB (fun c587 h587 => (xupD (c_X2_copyElements (xite (fun c586 h586 => (xite (fun c585 h585 => (xite (fun c584 h584 => (xgo b_X8_copy_73 h584)) (fun c584 h584 => h584) h585)) (fun c585 h585 => (xgo b_X8_copy_73 h585)) h586)) (fun c586 h586 => (xgo b_X8_copy_73 h586)) h587)) (Nat.le_trans (by decide) hd))) (fun c587 h587 => (xupD (c_X8_refuse (xite (fun c583 h583 => (xgo b_X8_copy_58 h583)) (fun c583 h583 => (xite (fun c582 h582 => (xite (fun c581 h581 => (xite (fun c580 h580 => (xgo b_X8_copy_58 h580)) (fun c580 h580 => h580) h581)) (fun c581 h581 => h581) h582)) (fun c582 h582 => (xgo b_X8_copy_58 h582)) h583)) h587)) (Nat.le_trans (by decide) hd))) h588)))) (fun c588 h588 => (xupD (c_X8_refuse (xite (fun c579 h579 => (xgo b_X8_copy_58 h579)) (fun c579 h579 => (xite (fun c578 h578 => (xite (fun c577 h577 => (xite (fun c576 h576 => (xgo b_X8_copy_58 h576)) (fun c576 h576 => h576) h577)) (fun c577 h577 => h577) h578)) (fun c578 h578 => (xgo b_X8_copy_58 h578)) h579)) h588)) (Nat.le_trans (by decide) hd))) h593)))) (fun c593 h593 => (xupD (c_X8_refuse (xite (fun c592 h592 => (xgo b_X8_copy_22 h592)) (fun c592 h592 => (xite (fun c591 h591 => (xite (fun c590 h590 => (xite (fun c589 h589 => (xgo b_X8_copy_22 h589)) (fun c589 h589 => h589) h590)) (fun c590 h590 => h590) h591)) (fun c591 h591 => (xgo b_X8_copy_22 h591)) h592)) h593)) (Nat.le_trans (by decide) hd))) h))))
theorem c_X8_show {F : xQ} {I : xI} {L : xL} {z : Bool × Bool × Nat} {a1 : Int32} {a2 : Int32} (h : (if p_X2_isShelf I L a1 then (if a2 = (-1 : Int32) then (if p_X2_isShelf I L a1 then (if a2 = (-1 : Int32) then (if xin a1 (8) then F (some (.int 1)) (xS (xw I 58 (Int32.toNatClampNeg a1) (-1 : Int32)) L z) else False) else (if xin a1 (8) then F (some (.int 1)) (xS (xw I 58 (Int32.toNatClampNeg a1) (10 + a2)) L z) else False)) else F (some (.int 1)) (xS I L z)) else (if p_X6_hasTeller I L a2 then (if p_X2_isShelf I L a1 then (if a2 = (-1 : Int32) then (if xin a1 (8) then F (some (.int 1)) (xS (xw I 58 (Int32.toNatClampNeg a1) (-1 : Int32)) L z) else False) else (if xin a1 (8) then F (some (.int 1)) (xS (xw I 58 (Int32.toNatClampNeg a1) (10 + a2)) L z) else False)) else F (some (.int 1)) (xS I L z)) else (if ((-2 : Int32) - (-2 : Int32)) < 0 then F (some (.int (-2 : Int32))) (xS I L z) else (if ((-2 : Int32) - (-2 : Int32)) < 5 then (if xin ((-2 : Int32) - (-2 : Int32)) (5) then (if xin ((-2 : Int32) - (-2 : Int32)) (5) then F (some (.int (-2 : Int32))) (xS (xw I 65 (Int32.toNatClampNeg ((-2 : Int32) - (-2 : Int32))) ((I 65 (Int32.toNatClampNeg ((-2 : Int32) - (-2 : Int32)))) + 1)) L z) else False) else False) else F (some (.int (-2 : Int32))) (xS I L z))))) else (if ((-2 : Int32) - (-2 : Int32)) < 0 then F (some (.int (-2 : Int32))) (xS I L z) else (if ((-2 : Int32) - (-2 : Int32)) < 5 then (if xin ((-2 : Int32) - (-2 : Int32)) (5) then (if xin ((-2 : Int32) - (-2 : Int32)) (5) then F (some (.int (-2 : Int32))) (xS (xw I 65 (Int32.toNatClampNeg ((-2 : Int32) - (-2 : Int32))) ((I 65 (Int32.toNatClampNeg ((-2 : Int32) - (-2 : Int32)))) + 1)) L z) else False) else False) else F (some (.int (-2 : Int32))) (xS I L z))))) : xCd 3 138 [.ref 9, .int a1, .int a2] (xS I L z) F := by
  have hd : 2 ≤ 2 := Nat.le_refl _
  exact xin_ (T := k_X8_show) (rt := 1) (ls := [some (.ref 9), some (.int a1), some (.int a2)]) rfl rfl rfl rfl (xgo b_X8_show_0 (xuse1 s_X2_isShelf (Nat.le_trans (by decide) hd) (xgo b_X8_show_4 (xiteB (fun c612 h612 => (xite (fun c611 h611 => (xupD (c_X2_putTeller (xite (fun c601 h601 => (xite (fun c600 h600 => (xite (fun c598 h598 => (xgo b_X8_show_39 h598)) (fun c598 h598 => h598) h600)) (fun c600 h600 => (xite (fun c599 h599 => (xgo b_X8_show_39 h599)) (fun c599 h599 => h599) h600)) h601)) (fun c601 h601 => (xgo b_X8_show_39 h601)) h611)) (Nat.le_trans (by decide) hd))) (fun c611 h611 => (xuse1 s_X6_hasTeller (Nat.le_trans (by decide) hd) (xgo b_X8_show_20 (xiteB (fun c610 h610 => (xupD (c_X2_putTeller (xite (fun c609 h609 => (xite (fun c608 h608 => (xite (fun c606 h606 => (xgo b_X8_show_39 h606)) (fun c606 h606 => h606) h608)) (fun c608 h608 => (xite (fun c607 h607 => (xgo b_X8_show_39 h607)) (fun c607 h607 => h607) h608)) h609)) (fun c609 h609 => (xgo b_X8_show_39 h609)) h610)) (Nat.le_trans (by decide) hd))) (fun c610 h610 => (xupD (c_X8_refuse (xite (fun c605 h605 => (xgo b_X8_show_29 h605)) (fun c605 h605 => (xite (fun c604 h604 => (xite (fun c603 h603 => (xite (fun c602 h602 => (xgo b_X8_show_29 h602)) (fun c602 h602 => h602) h603)) (fun c603 h603 => h603) h604)) (fun c604 h604 => (xgo b_X8_show_29 h604)) h605)) h610)) (Nat.le_trans (by decide) hd))) h611)))) h612)) (fun c612 h612 => (xupD (c_X8_refuse (xite (fun c597 h597 => (xgo b_X8_show_29 h597)) (fun c597 h597 => (xite (fun c596 h596 => (xite (fun c595 h595 => (xite (fun c594 h594 => (xgo b_X8_show_29 h594)) (fun c594 h594 => h594) h595)) (fun c595 h595 => h595) h596)) (fun c596 h596 => (xgo b_X8_show_29 h596)) h597)) h612)) (Nat.le_trans (by decide) hd))) h))))
theorem c_X8_law {F : xQ} {I : xI} {L : xL} {z : Bool × Bool × Nat} {a1 : Int32} (h : (if a1 < 0 then (if ((-2 : Int32) - (-2 : Int32)) < 0 then F (some (.int (-2 : Int32))) (xS I L z) else (if ((-2 : Int32) - (-2 : Int32)) < 5 then (if xin ((-2 : Int32) - (-2 : Int32)) (5) then (if xin ((-2 : Int32) - (-2 : Int32)) (5) then F (some (.int (-2 : Int32))) (xS (xw I 65 (Int32.toNatClampNeg ((-2 : Int32) - (-2 : Int32))) ((I 65 (Int32.toNatClampNeg ((-2 : Int32) - (-2 : Int32)))) + 1)) L z) else False) else False) else F (some (.int (-2 : Int32))) (xS I L z))) else (if 2 < a1 then (if ((-2 : Int32) - (-2 : Int32)) < 0 then F (some (.int (-2 : Int32))) (xS I L z) else (if ((-2 : Int32) - (-2 : Int32)) < 5 then (if xin ((-2 : Int32) - (-2 : Int32)) (5) then (if xin ((-2 : Int32) - (-2 : Int32)) (5) then F (some (.int (-2 : Int32))) (xS (xw I 65 (Int32.toNatClampNeg ((-2 : Int32) - (-2 : Int32))) ((I 65 (Int32.toNatClampNeg ((-2 : Int32) - (-2 : Int32)))) + 1)) L z) else False) else False) else F (some (.int (-2 : Int32))) (xS I L z))) else F (some (.int (I 10 1))) (xS (xw (xw I 10 1 a1) 10 5 1) L z)))) : xCd 2 142 [.ref 9, .int a1] (xS I L z) F := by
  have hd : 1 ≤ 1 := Nat.le_refl _
  exact xin_ (T := k_X8_law) (rt := 1) (ls := [some (.ref 9), some (.int a1), none]) rfl rfl rfl rfl (xgo b_X8_law_0 (xite (fun c652 h652 => (xupD (c_X8_refuse (xite (fun c646 h646 => (xgo b_X8_law_15 h646)) (fun c646 h646 => (xite (fun c645 h645 => (xite (fun c644 h644 => (xite (fun c643 h643 => (xgo b_X8_law_15 h643)) (fun c643 h643 => h643) h644)) (fun c644 h644 => h644) h645)) (fun c645 h645 => (xgo b_X8_law_15 h645)) h646)) h652)) (Nat.le_trans (by decide) hd))) (fun c652 h652 => (xite (fun c651 h651 => (xupD (c_X8_refuse (xite (fun c650 h650 => (xgo b_X8_law_15 h650)) (fun c650 h650 => (xite (fun c649 h649 => (xite (fun c648 h648 => (xite (fun c647 h647 => (xgo b_X8_law_15 h647)) (fun c647 h647 => h647) h648)) (fun c648 h648 => h648) h649)) (fun c649 h649 => (xgo b_X8_law_15 h649)) h650)) h651)) (Nat.le_trans (by decide) hd))) (fun c651 h651 => (xupD (c_X6_setLaw (xgo b_X8_law_32 h651)) (Nat.le_trans (by decide) hd))) h652)) h))
theorem c_X8_sort {F : xQ} {I : xI} {L : xL} {z : Bool × Bool × Nat} {a1 : Int32} {a2 : Int32} {a3 : Int32} (h : (if p_X8_isSort I L a1 then (if p_X8_isLook I L a2 then (if p_X8_isNumber I L a3 then (if ((a1 * 3) + a2) < 0 then F (some (.int (f_X6_numberOf I L a2 a1))) (xS (xw I 10 6 1) L z) else (if ((a1 * 3) + a2) < 18 then (if xin ((a1 * 3) + a2) (18) then F (some (.int (f_X6_numberOf I L a2 a1))) (xS (xw (xw I 13 (Int32.toNatClampNeg ((a1 * 3) + a2)) a3) 10 6 1) L z) else False) else F (some (.int (f_X6_numberOf I L a2 a1))) (xS (xw I 10 6 1) L z))) else (if ((-2 : Int32) - (-2 : Int32)) < 0 then F (some (.int (-2 : Int32))) (xS I L z) else (if ((-2 : Int32) - (-2 : Int32)) < 5 then (if xin ((-2 : Int32) - (-2 : Int32)) (5) then (if xin ((-2 : Int32) - (-2 : Int32)) (5) then F (some (.int (-2 : Int32))) (xS (xw I 65 (Int32.toNatClampNeg ((-2 : Int32) - (-2 : Int32))) ((I 65 (Int32.toNatClampNeg ((-2 : Int32) - (-2 : Int32)))) + 1)) L z) else False) else False) else F (some (.int (-2 : Int32))) (xS I L z)))) else (if ((-2 : Int32) - (-2 : Int32)) < 0 then F (some (.int (-2 : Int32))) (xS I L z) else (if ((-2 : Int32) - (-2 : Int32)) < 5 then (if xin ((-2 : Int32) - (-2 : Int32)) (5) then (if xin ((-2 : Int32) - (-2 : Int32)) (5) then F (some (.int (-2 : Int32))) (xS (xw I 65 (Int32.toNatClampNeg ((-2 : Int32) - (-2 : Int32))) ((I 65 (Int32.toNatClampNeg ((-2 : Int32) - (-2 : Int32)))) + 1)) L z) else False) else False) else F (some (.int (-2 : Int32))) (xS I L z)))) else (if ((-2 : Int32) - (-2 : Int32)) < 0 then F (some (.int (-2 : Int32))) (xS I L z) else (if ((-2 : Int32) - (-2 : Int32)) < 5 then (if xin ((-2 : Int32) - (-2 : Int32)) (5) then (if xin ((-2 : Int32) - (-2 : Int32)) (5) then F (some (.int (-2 : Int32))) (xS (xw I 65 (Int32.toNatClampNeg ((-2 : Int32) - (-2 : Int32))) ((I 65 (Int32.toNatClampNeg ((-2 : Int32) - (-2 : Int32)))) + 1)) L z) else False) else False) else F (some (.int (-2 : Int32))) (xS I L z))))) : xCd 2 143 [.ref 9, .int a1, .int a2, .int a3] (xS I L z) F := by
  have hd : 1 ≤ 1 := Nat.le_refl _
  exact xin_ (T := k_X8_sort) (rt := 1) (ls := [some (.ref 9), some (.int a1), some (.int a2), some (.int a3), none]) rfl rfl rfl rfl (xgo b_X8_sort_0 (xuse1 s_X8_isSort (Nat.le_trans (by decide) hd) (xgo b_X8_sort_4 (xiteB (fun c670 h670 => (xuse1 s_X8_isLook (Nat.le_trans (by decide) hd) (xgo b_X8_sort_11 (xiteB (fun c669 h669 => (xuse1 s_X8_isNumber (Nat.le_trans (by decide) hd) (xgo b_X8_sort_18 (xiteB (fun c668 h668 => (xuse1 s_X6_numberOf (Nat.le_trans (by decide) hd) (xgo b_X8_sort_37 (xupD (c_X6_setNumber (xite (fun c667 h667 => (xgo b_X8_sort_49 h667)) (fun c667 h667 => (xite (fun c666 h666 => (xite (fun c665 h665 => (xgo b_X8_sort_49 h665)) (fun c665 h665 => h665) h666)) (fun c666 h666 => (xgo b_X8_sort_49 h666)) h667)) h668)) (Nat.le_trans (by decide) hd))))) (fun c668 h668 => (xupD (c_X8_refuse (xite (fun c664 h664 => (xgo b_X8_sort_27 h664)) (fun c664 h664 => (xite (fun c663 h663 => (xite (fun c662 h662 => (xite (fun c661 h661 => (xgo b_X8_sort_27 h661)) (fun c661 h661 => h661) h662)) (fun c662 h662 => h662) h663)) (fun c663 h663 => (xgo b_X8_sort_27 h663)) h664)) h668)) (Nat.le_trans (by decide) hd))) h669)))) (fun c669 h669 => (xupD (c_X8_refuse (xite (fun c660 h660 => (xgo b_X8_sort_27 h660)) (fun c660 h660 => (xite (fun c659 h659 => (xite (fun c658 h658 => (xite (fun c657 h657 => (xgo b_X8_sort_27 h657)) (fun c657 h657 => h657) h658)) (fun c658 h658 => h658) h659)) (fun c659 h659 => (xgo b_X8_sort_27 h659)) h660)) h669)) (Nat.le_trans (by decide) hd))) h670)))) (fun c670 h670 => (xupD (c_X8_refuse (xite (fun c656 h656 => (xgo b_X8_sort_27 h656)) (fun c656 h656 => (xite (fun c655 h655 => (xite (fun c654 h654 => (xite (fun c653 h653 => (xgo b_X8_sort_27 h653)) (fun c653 h653 => h653) h654)) (fun c654 h654 => h654) h655)) (fun c655 h655 => (xgo b_X8_sort_27 h655)) h656)) h670)) (Nat.le_trans (by decide) hd))) h))))
theorem c_X8_guest {F : xQ} {I : xI} {L : xL} {z : Bool × Bool × Nat} {a1 : Int32} {a2 : Int32} {a3 : Int32} (h : (if p_X6_hasPlace I L a1 then (if a2 = (-1 : Int32) then (if p_X8_isNumber I L a3 then (if p_X6_hasPlace I L a1 then (if xin a1 (6) then (if xin a1 (6) then F (some (.int 1)) (xS (xw (xw I 14 (Int32.toNatClampNeg a1) a2) 15 (Int32.toNatClampNeg a1) a3) L z) else False) else False) else F (some (.int 1)) (xS I L z)) else (if ((-2 : Int32) - (-2 : Int32)) < 0 then F (some (.int (-2 : Int32))) (xS I L z) else (if ((-2 : Int32) - (-2 : Int32)) < 5 then (if xin ((-2 : Int32) - (-2 : Int32)) (5) then (if xin ((-2 : Int32) - (-2 : Int32)) (5) then F (some (.int (-2 : Int32))) (xS (xw I 65 (Int32.toNatClampNeg ((-2 : Int32) - (-2 : Int32))) ((I 65 (Int32.toNatClampNeg ((-2 : Int32) - (-2 : Int32)))) + 1)) L z) else False) else False) else F (some (.int (-2 : Int32))) (xS I L z)))) else (if p_X8_isSort I L a2 then (if p_X8_isNumber I L a3 then (if p_X6_hasPlace I L a1 then (if xin a1 (6) then (if xin a1 (6) then F (some (.int 1)) (xS (xw (xw I 14 (Int32.toNatClampNeg a1) a2) 15 (Int32.toNatClampNeg a1) a3) L z) else False) else False) else F (some (.int 1)) (xS I L z)) else (if ((-2 : Int32) - (-2 : Int32)) < 0 then F (some (.int (-2 : Int32))) (xS I L z) else (if ((-2 : Int32) - (-2 : Int32)) < 5 then (if xin ((-2 : Int32) - (-2 : Int32)) (5) then (if xin ((-2 : Int32) - (-2 : Int32)) (5) then F (some (.int (-2 : Int32))) (xS (xw I 65 (Int32.toNatClampNeg ((-2 : Int32) - (-2 : Int32))) ((I 65 (Int32.toNatClampNeg ((-2 : Int32) - (-2 : Int32)))) + 1)) L z) else False) else False) else F (some (.int (-2 : Int32))) (xS I L z)))) else (if ((-2 : Int32) - (-2 : Int32)) < 0 then F (some (.int (-2 : Int32))) (xS I L z) else (if ((-2 : Int32) - (-2 : Int32)) < 5 then (if xin ((-2 : Int32) - (-2 : Int32)) (5) then (if xin ((-2 : Int32) - (-2 : Int32)) (5) then F (some (.int (-2 : Int32))) (xS (xw I 65 (Int32.toNatClampNeg ((-2 : Int32) - (-2 : Int32))) ((I 65 (Int32.toNatClampNeg ((-2 : Int32) - (-2 : Int32)))) + 1)) L z) else False) else False) else F (some (.int (-2 : Int32))) (xS I L z))))) else (if ((-2 : Int32) - (-2 : Int32)) < 0 then F (some (.int (-2 : Int32))) (xS I L z) else (if ((-2 : Int32) - (-2 : Int32)) < 5 then (if xin ((-2 : Int32) - (-2 : Int32)) (5) then (if xin ((-2 : Int32) - (-2 : Int32)) (5) then F (some (.int (-2 : Int32))) (xS (xw I 65 (Int32.toNatClampNeg ((-2 : Int32) - (-2 : Int32))) ((I 65 (Int32.toNatClampNeg ((-2 : Int32) - (-2 : Int32)))) + 1)) L z) else False) else False) else F (some (.int (-2 : Int32))) (xS I L z))))) : xCd 3 144 [.ref 9, .int a1, .int a2, .int a3] (xS I L z) F := by
  have hd : 2 ≤ 2 := Nat.le_refl _
  exact xin_ (T := k_X8_guest) (rt := 1) (ls := [some (.ref 9), some (.int a1), some (.int a2), some (.int a3)]) rfl rfl rfl rfl (xgo b_X8_guest_0 (xuse1 s_X6_hasPlace (Nat.le_trans (by decide) hd) (xgo b_X8_guest_8 (xiteB (fun c697 h697 => (xite (fun c696 h696 => (xuse1 s_X8_isNumber (Nat.le_trans (by decide) hd) (xgo b_X8_guest_27 (xiteB (fun c682 h682 => (xupD (c_X6_setGuest (xite (fun c681 h681 => (xite (fun c680 h680 => (xite (fun c679 h679 => (xgo b_X8_guest_47 h679)) (fun c679 h679 => h679) h680)) (fun c680 h680 => h680) h681)) (fun c681 h681 => (xgo b_X8_guest_47 h681)) h682)) (Nat.le_trans (by decide) hd))) (fun c682 h682 => (xupD (c_X8_refuse (xite (fun c678 h678 => (xgo b_X8_guest_36 h678)) (fun c678 h678 => (xite (fun c677 h677 => (xite (fun c676 h676 => (xite (fun c675 h675 => (xgo b_X8_guest_36 h675)) (fun c675 h675 => h675) h676)) (fun c676 h676 => h676) h677)) (fun c677 h677 => (xgo b_X8_guest_36 h677)) h678)) h682)) (Nat.le_trans (by decide) hd))) h696)))) (fun c696 h696 => (xuse1 s_X8_isSort (Nat.le_trans (by decide) hd) (xgo b_X8_guest_20 (xiteB (fun c695 h695 => (xuse1 s_X8_isNumber (Nat.le_trans (by decide) hd) (xgo b_X8_guest_27 (xiteB (fun c694 h694 => (xupD (c_X6_setGuest (xite (fun c693 h693 => (xite (fun c692 h692 => (xite (fun c691 h691 => (xgo b_X8_guest_47 h691)) (fun c691 h691 => h691) h692)) (fun c692 h692 => h692) h693)) (fun c693 h693 => (xgo b_X8_guest_47 h693)) h694)) (Nat.le_trans (by decide) hd))) (fun c694 h694 => (xupD (c_X8_refuse (xite (fun c690 h690 => (xgo b_X8_guest_36 h690)) (fun c690 h690 => (xite (fun c689 h689 => (xite (fun c688 h688 => (xite (fun c687 h687 => (xgo b_X8_guest_36 h687)) (fun c687 h687 => h687) h688)) (fun c688 h688 => h688) h689)) (fun c689 h689 => (xgo b_X8_guest_36 h689)) h690)) h694)) (Nat.le_trans (by decide) hd))) h695)))) (fun c695 h695 => (xupD (c_X8_refuse (xite (fun c686 h686 => (xgo b_X8_guest_36 h686)) (fun c686 h686 => (xite (fun c685 h685 => (xite (fun c684 h684 => (xite (fun c683 h683 => (xgo b_X8_guest_36 h683)) (fun c683 h683 => h683) h684)) (fun c684 h684 => h684) h685)) (fun c685 h685 => (xgo b_X8_guest_36 h685)) h686)) h695)) (Nat.le_trans (by decide) hd))) h696)))) h697)) (fun c697 h697 => (xupD (c_X8_refuse (xite (fun c674 h674 => (xgo b_X8_guest_36 h674)) (fun c674 h674 => (xite (fun c673 h673 => (xite (fun c672 h672 => (xite (fun c671 h671 => (xgo b_X8_guest_36 h671)) (fun c671 h671 => h671) h672)) (fun c672 h672 => h672) h673)) (fun c673 h673 => (xgo b_X8_guest_36 h673)) h674)) h697)) (Nat.le_trans (by decide) hd))) h))))
theorem c_X8_teller {F : xQ} {I : xI} {L : xL} {z : Bool × Bool × Nat} {a1 : Int32} {a2 : Int32} (h : (if p_X5_isKind I L a1 then (if p_X8_isNumber I L a2 then (if (I 10 4) < 4 then (if (I 10 4) < 0 then F (some (.int (-1 : Int32))) (xS I L z) else (if (I 10 4) < 4 then (if xin (I 10 4) (4) then (if xin (I 10 4) (4) then F (some (.int (I 10 4))) (xS (xw (xw (xw I 17 (Int32.toNatClampNeg (I 10 4)) a1) 18 (Int32.toNatClampNeg (I 10 4)) a2) 10 4 (((xw (xw I 17 (Int32.toNatClampNeg (I 10 4)) a1) 18 (Int32.toNatClampNeg (I 10 4)) a2) 10 4) + 1)) L z) else False) else False) else F (some (.int (-1 : Int32))) (xS I L z))) else (if ((-2 : Int32) - (-6 : Int32)) < 0 then F (some (.int (-6 : Int32))) (xS I L z) else (if ((-2 : Int32) - (-6 : Int32)) < 5 then (if xin ((-2 : Int32) - (-6 : Int32)) (5) then (if xin ((-2 : Int32) - (-6 : Int32)) (5) then F (some (.int (-6 : Int32))) (xS (xw I 65 (Int32.toNatClampNeg ((-2 : Int32) - (-6 : Int32))) ((I 65 (Int32.toNatClampNeg ((-2 : Int32) - (-6 : Int32)))) + 1)) L z) else False) else False) else F (some (.int (-6 : Int32))) (xS I L z)))) else (if ((-2 : Int32) - (-2 : Int32)) < 0 then F (some (.int (-2 : Int32))) (xS I L z) else (if ((-2 : Int32) - (-2 : Int32)) < 5 then (if xin ((-2 : Int32) - (-2 : Int32)) (5) then (if xin ((-2 : Int32) - (-2 : Int32)) (5) then F (some (.int (-2 : Int32))) (xS (xw I 65 (Int32.toNatClampNeg ((-2 : Int32) - (-2 : Int32))) ((I 65 (Int32.toNatClampNeg ((-2 : Int32) - (-2 : Int32)))) + 1)) L z) else False) else False) else F (some (.int (-2 : Int32))) (xS I L z)))) else (if ((-2 : Int32) - (-2 : Int32)) < 0 then F (some (.int (-2 : Int32))) (xS I L z) else (if ((-2 : Int32) - (-2 : Int32)) < 5 then (if xin ((-2 : Int32) - (-2 : Int32)) (5) then (if xin ((-2 : Int32) - (-2 : Int32)) (5) then F (some (.int (-2 : Int32))) (xS (xw I 65 (Int32.toNatClampNeg ((-2 : Int32) - (-2 : Int32))) ((I 65 (Int32.toNatClampNeg ((-2 : Int32) - (-2 : Int32)))) + 1)) L z) else False) else False) else F (some (.int (-2 : Int32))) (xS I L z))))) : xCd 2 145 [.ref 9, .int a1, .int a2] (xS I L z) F := by
  have hd : 1 ≤ 1 := Nat.le_refl _
  exact xin_ (T := k_X8_teller) (rt := 1) (ls := [some (.ref 9), some (.int a1), some (.int a2)]) rfl rfl rfl rfl (xgo b_X8_teller_0 (xuse1 s_X5_isKind (Nat.le_trans (by decide) hd) (xgo b_X8_teller_4 (xiteB (fun c716 h716 => (xuse1 s_X8_isNumber (Nat.le_trans (by decide) hd) (xgo b_X8_teller_11 (xiteB (fun c715 h715 => (xite (fun c714 h714 => (xupD (c_X6_addTeller (xite (fun c709 h709 => (xgo b_X8_teller_48 h709)) (fun c709 h709 => (xite (fun c708 h708 => (xite (fun c707 h707 => (xite (fun c706 h706 => (xgo b_X8_teller_48 h706)) (fun c706 h706 => h706) h707)) (fun c707 h707 => h707) h708)) (fun c708 h708 => (xgo b_X8_teller_48 h708)) h709)) h714)) (Nat.le_trans (by decide) hd))) (fun c714 h714 => (xupD (c_X8_refuse (xite (fun c713 h713 => (xgo b_X8_teller_38 h713)) (fun c713 h713 => (xite (fun c712 h712 => (xite (fun c711 h711 => (xite (fun c710 h710 => (xgo b_X8_teller_38 h710)) (fun c710 h710 => h710) h711)) (fun c711 h711 => h711) h712)) (fun c712 h712 => (xgo b_X8_teller_38 h712)) h713)) h714)) (Nat.le_trans (by decide) hd))) h715)) (fun c715 h715 => (xupD (c_X8_refuse (xite (fun c705 h705 => (xgo b_X8_teller_20 h705)) (fun c705 h705 => (xite (fun c704 h704 => (xite (fun c703 h703 => (xite (fun c702 h702 => (xgo b_X8_teller_20 h702)) (fun c702 h702 => h702) h703)) (fun c703 h703 => h703) h704)) (fun c704 h704 => (xgo b_X8_teller_20 h704)) h705)) h715)) (Nat.le_trans (by decide) hd))) h716)))) (fun c716 h716 => (xupD (c_X8_refuse (xite (fun c701 h701 => (xgo b_X8_teller_20 h701)) (fun c701 h701 => (xite (fun c700 h700 => (xite (fun c699 h699 => (xite (fun c698 h698 => (xgo b_X8_teller_20 h698)) (fun c698 h698 => h698) h699)) (fun c699 h699 => h699) h700)) (fun c700 h700 => (xgo b_X8_teller_20 h700)) h701)) h716)) (Nat.le_trans (by decide) hd))) h))))
theorem c_X8_feed {F : xQ} {I : xI} {L : xL} {z : Bool × Bool × Nat} {a1 : Int32} (h : (if a1 < 0 then (if ((-2 : Int32) - (-2 : Int32)) < 0 then F (some (.int (-2 : Int32))) (xS I L z) else (if ((-2 : Int32) - (-2 : Int32)) < 5 then (if xin ((-2 : Int32) - (-2 : Int32)) (5) then (if xin ((-2 : Int32) - (-2 : Int32)) (5) then F (some (.int (-2 : Int32))) (xS (xw I 65 (Int32.toNatClampNeg ((-2 : Int32) - (-2 : Int32))) ((I 65 (Int32.toNatClampNeg ((-2 : Int32) - (-2 : Int32)))) + 1)) L z) else False) else False) else F (some (.int (-2 : Int32))) (xS I L z))) else (if 255 < a1 then (if ((-2 : Int32) - (-2 : Int32)) < 0 then F (some (.int (-2 : Int32))) (xS I L z) else (if ((-2 : Int32) - (-2 : Int32)) < 5 then (if xin ((-2 : Int32) - (-2 : Int32)) (5) then (if xin ((-2 : Int32) - (-2 : Int32)) (5) then F (some (.int (-2 : Int32))) (xS (xw I 65 (Int32.toNatClampNeg ((-2 : Int32) - (-2 : Int32))) ((I 65 (Int32.toNatClampNeg ((-2 : Int32) - (-2 : Int32)))) + 1)) L z) else False) else False) else F (some (.int (-2 : Int32))) (xS I L z))) else (if (I 61 0) < 0 then (if ((-2 : Int32) - (-6 : Int32)) < 0 then F (some (.int (-6 : Int32))) (xS I L z) else (if ((-2 : Int32) - (-6 : Int32)) < 5 then (if xin ((-2 : Int32) - (-6 : Int32)) (5) then (if xin ((-2 : Int32) - (-6 : Int32)) (5) then F (some (.int (-6 : Int32))) (xS (xw I 65 (Int32.toNatClampNeg ((-2 : Int32) - (-6 : Int32))) ((I 65 (Int32.toNatClampNeg ((-2 : Int32) - (-6 : Int32)))) + 1)) L z) else False) else False) else F (some (.int (-6 : Int32))) (xS I L z))) else (if (I 61 0) < 250 then (if xin (I 61 0) (250) then F (some (.int ((xw (xw I 62 (Int32.toNatClampNeg (I 61 0)) a1) 61 0 (((xw I 62 (Int32.toNatClampNeg (I 61 0)) a1) 61 0) + 1)) 61 0))) (xS (xw (xw I 62 (Int32.toNatClampNeg (I 61 0)) a1) 61 0 (((xw I 62 (Int32.toNatClampNeg (I 61 0)) a1) 61 0) + 1)) L z) else False) else (if ((-2 : Int32) - (-6 : Int32)) < 0 then F (some (.int (-6 : Int32))) (xS I L z) else (if ((-2 : Int32) - (-6 : Int32)) < 5 then (if xin ((-2 : Int32) - (-6 : Int32)) (5) then (if xin ((-2 : Int32) - (-6 : Int32)) (5) then F (some (.int (-6 : Int32))) (xS (xw I 65 (Int32.toNatClampNeg ((-2 : Int32) - (-6 : Int32))) ((I 65 (Int32.toNatClampNeg ((-2 : Int32) - (-6 : Int32)))) + 1)) L z) else False) else False) else F (some (.int (-6 : Int32))) (xS I L z)))))))) : xCd 2 148 [.ref 9, .int a1] (xS I L z) F := by
  have hd : 1 ≤ 1 := Nat.le_refl _
  exact xin_ (T := k_X8_feed) (rt := 1) (ls := [some (.ref 9), some (.int a1)]) rfl rfl rfl rfl (xgo b_X8_feed_0 (xite (fun c747 h747 => (xupD (c_X8_refuse (xite (fun c730 h730 => (xgo b_X8_feed_17 h730)) (fun c730 h730 => (xite (fun c729 h729 => (xite (fun c728 h728 => (xite (fun c727 h727 => (xgo b_X8_feed_17 h727)) (fun c727 h727 => h727) h728)) (fun c728 h728 => h728) h729)) (fun c729 h729 => (xgo b_X8_feed_17 h729)) h730)) h747)) (Nat.le_trans (by decide) hd))) (fun c747 h747 => (xite (fun c746 h746 => (xupD (c_X8_refuse (xite (fun c734 h734 => (xgo b_X8_feed_17 h734)) (fun c734 h734 => (xite (fun c733 h733 => (xite (fun c732 h732 => (xite (fun c731 h731 => (xgo b_X8_feed_17 h731)) (fun c731 h731 => h731) h732)) (fun c732 h732 => h732) h733)) (fun c733 h733 => (xgo b_X8_feed_17 h733)) h734)) h746)) (Nat.le_trans (by decide) hd))) (fun c746 h746 => (xupD (c_X4_put (xite (fun c745 h745 => (xgo b_X8_feed_26 (xitT (by decide) (xupD (c_X8_refuse (xite (fun c738 h738 => (xgo b_X8_feed_35 h738)) (fun c738 h738 => (xite (fun c737 h737 => (xite (fun c736 h736 => (xite (fun c735 h735 => (xgo b_X8_feed_35 h735)) (fun c735 h735 => h735) h736)) (fun c736 h736 => h736) h737)) (fun c737 h737 => (xgo b_X8_feed_35 h737)) h738)) h745)) (Nat.le_trans (by decide) hd))))) (fun c745 h745 => (xite (fun c744 h744 => (xite (fun c739 h739 => (xgo b_X8_feed_26 (xitF (by decide) h739))) (fun c739 h739 => h739) h744)) (fun c744 h744 => (xgo b_X8_feed_26 (xitT (by decide) (xupD (c_X8_refuse (xite (fun c743 h743 => (xgo b_X8_feed_35 h743)) (fun c743 h743 => (xite (fun c742 h742 => (xite (fun c741 h741 => (xite (fun c740 h740 => (xgo b_X8_feed_35 h740)) (fun c740 h740 => h740) h741)) (fun c741 h741 => h741) h742)) (fun c742 h742 => (xgo b_X8_feed_35 h742)) h743)) h744)) (Nat.le_trans (by decide) hd))))) h745)) h746)) (Nat.le_trans (by decide) hd))) h747)) h))
theorem c_X8_stands {F : xQ} {I : xI} {L : xL} {z : Bool × Bool × Nat} {a1 : Int32} (h : (if p_X6_hasPlace I L a1 then F (some (.int (f_X6_truthAt I L a1))) (xS I L z) else (if ((-2 : Int32) - (-2 : Int32)) < 0 then F (some (.int (-2 : Int32))) (xS I L z) else (if ((-2 : Int32) - (-2 : Int32)) < 5 then (if xin ((-2 : Int32) - (-2 : Int32)) (5) then (if xin ((-2 : Int32) - (-2 : Int32)) (5) then F (some (.int (-2 : Int32))) (xS (xw I 65 (Int32.toNatClampNeg ((-2 : Int32) - (-2 : Int32))) ((I 65 (Int32.toNatClampNeg ((-2 : Int32) - (-2 : Int32)))) + 1)) L z) else False) else False) else F (some (.int (-2 : Int32))) (xS I L z))))) : xCd 2 172 [.ref 9, .int a1] (xS I L z) F := by
  have hd : 1 ≤ 1 := Nat.le_refl _
  exact xin_ (T := k_X8_stands) (rt := 1) (ls := [some (.ref 9), some (.int a1)]) rfl rfl rfl rfl (xgo b_X8_stands_0 (xuse1 s_X6_hasPlace (Nat.le_trans (by decide) hd) (xgo b_X8_stands_8 (xiteB (fun c873 h873 => (xuse1 s_X6_truthAt (Nat.le_trans (by decide) hd) (xgo b_X8_stands_26 h873))) (fun c873 h873 => (xupD (c_X8_refuse (xite (fun c872 h872 => (xgo b_X8_stands_17 h872)) (fun c872 h872 => (xite (fun c871 h871 => (xite (fun c870 h870 => (xite (fun c869 h869 => (xgo b_X8_stands_17 h869)) (fun c869 h869 => h869) h870)) (fun c870 h870 => h870) h871)) (fun c871 h871 => (xgo b_X8_stands_17 h871)) h872)) h873)) (Nat.le_trans (by decide) hd))) h))))
