set_option maxRecDepth 100000 in
theorem b_X0_wrongIn_0 {C : xC} {Q : xQ} {K : xK} {I : xI} {L : xL} {z : Bool × Bool × Nat} {b : Nat × Nat} {a1 : Nat} :
  xrun k_X0_wrongIn 1 C Q [4, 35] K 4 0 [some (.ref 50), some (.ref a1), none, none, none] [] (xS I L z) b =
  K 4 [some (.ref 50), some (.ref a1), some (.int 0), some (.int 0), none] [] (xS I L z) b := rfl
set_option maxRecDepth 100000 in
theorem b_X0_wrongIn_4 {C : xC} {Q : xQ} {K : xK} {I : xI} {L : xL} {z : Bool × Bool × Nat} {b : Nat × Nat} {a1 : Nat} {a2 : Int32} {a3 : Int32} :
  xrun k_X0_wrongIn 1 C Q [4, 35] K 17 4 [some (.ref 50), some (.ref a1), some (.int a2), some (.int a3), none] [] (xS I L z) b =
  (if a3 < (I 10 0) then (bif xalive (112, bif z.1 then 158 else 112, bif z.2.1 then 204 else 158) a1 && Nat.ble 20 (xkind a1) && !(Nat.beq (xkind a1) 24) then (if a3 < (Int32.ofNat (xlen z.2.2 (a1))) then (bif xisi (xS I L z) a1 then (if xin a3 (xlen z.2.2 (a1)) then C 82 [.ref 10, .int (I a1 (Int32.toNatClampNeg a3))] (xS I L z) (fun r τ => K 35 [some (.ref 50), some (.ref a1), some (.int a2), some (.int a3), some (.int (I a1 (Int32.toNatClampNeg a3)))] (r.toList ++ []) τ b) else False) else False) else Q (some (.int (-1 : Int32))) (xS I L z)) else False) else Q (some (.int (-1 : Int32))) (xS I L z)) := rfl
set_option maxRecDepth 100000 in
theorem b_X0_wrongIn_35 {C : xC} {Q : xQ} {K : xK} {I : xI} {L : xL} {z : Bool × Bool × Nat} {b : Nat × Nat} {a1 : Nat} {a2 : Int32} {a3 : Int32} {a4 : Int32} {s0 : Int32} :
  xrun k_X0_wrongIn 1 C Q [4, 35] K 16 35 [some (.ref 50), some (.ref a1), some (.int a2), some (.int a3), some (.int a4)] [.int s0] (xS I L z) b =
  (if s0 = 0 then Q (some (.int a3)) (xS I L z) else (if ((a2 >>> (a4 &&& 31)) &&& 1) = 1 then Q (some (.int a3)) (xS I L z) else K 4 [some (.ref 50), some (.ref a1), some (.int (a2 ||| (1 <<< (a4 &&& 31)))), some (.int (a3 + 1)), some (.int a4)] [] (xS I L z) b)) := rfl
set_option maxRecDepth 100000 in
theorem b_X0_meanOf_0 {C : xC} {Q : xQ} {K : xK} {I : xI} {L : xL} {z : Bool × Bool × Nat} {b : Nat × Nat} {a1 : Nat} :
  xrun k_X0_meanOf 1 C Q [4, 30, 38] K 4 0 [some (.ref 50), some (.ref a1), none, none] [] (xS I L z) b =
  K 4 [some (.ref 50), some (.ref a1), some (.int 0), some (.int 0)] [] (xS I L z) b := rfl
set_option maxRecDepth 100000 in
theorem b_X0_meanOf_4 {C : xC} {Q : xQ} {K : xK} {I : xI} {L : xL} {z : Bool × Bool × Nat} {b : Nat × Nat} {a1 : Nat} {a2 : Int32} {a3 : Int32} :
  xrun k_X0_meanOf 1 C Q [4, 30, 38] K 14 4 [some (.ref 50), some (.ref a1), some (.int a2), some (.int a3)] [] (xS I L z) b =
  (if a3 < (I 10 0) then (bif xalive (112, bif z.1 then 158 else 112, bif z.2.1 then 204 else 158) a1 && Nat.ble 20 (xkind a1) && !(Nat.beq (xkind a1) 24) then (if a3 < (Int32.ofNat (xlen z.2.2 (a1))) then C 94 [.ref 10, .int a3] (xS I L z) (fun r τ => K 30 [some (.ref 50), some (.ref a1), some (.int a2), some (.int a3)] (r.toList ++ [.int a2]) τ b) else Q (some (.int a2)) (xS I L z)) else False) else Q (some (.int a2)) (xS I L z)) := rfl
set_option maxRecDepth 100000 in
theorem b_X0_meanOf_30 {C : xC} {Q : xQ} {K : xK} {I : xI} {L : xL} {z : Bool × Bool × Nat} {b : Nat × Nat} {a1 : Nat} {a2 : Int32} {a3 : Int32} {s1 : Int32} {s0 : Int32} :
  xrun k_X0_meanOf 1 C Q [4, 30, 38] K 6 30 [some (.ref 50), some (.ref a1), some (.int a2), some (.int a3)] [.int s0, .int s1] (xS I L z) b =
  (bif xisi (xS I L z) a1 then (if xin a3 (xlen z.2.2 (a1)) then C 2 [.ref 50, .int a3, .int (I a1 (Int32.toNatClampNeg a3))] (xS I L z) (fun r τ => K 38 [some (.ref 50), some (.ref a1), some (.int a2), some (.int a3)] (r.toList ++ [.int s0, .int s1]) τ b) else False) else False) := rfl
set_option maxRecDepth 100000 in
theorem b_X0_meanOf_38 {C : xC} {Q : xQ} {K : xK} {I : xI} {L : xL} {z : Bool × Bool × Nat} {b : Nat × Nat} {a1 : Nat} {a2 : Int32} {a3 : Int32} {s2 : Int32} {s1 : Int32} {s0 : Int32} :
  xrun k_X0_meanOf 1 C Q [4, 30, 38] K 5 38 [some (.ref 50), some (.ref a1), some (.int a2), some (.int a3)] [.int s0, .int s1, .int s2] (xS I L z) b =
  K 4 [some (.ref 50), some (.ref a1), some (.int (s2 + (s1 * s0))), some (.int (a3 + 1))] [] (xS I L z) b := rfl
set_option maxRecDepth 100000 in
theorem b_X0_costInTruth_0 {C : xC} {Q : xQ} {K : xK} {I : xI} {L : xL} {z : Bool × Bool × Nat} {b : Nat × Nat} {a1 : Nat} :
  xrun k_X0_costInTruth 1 C Q [4, 29, 41] K 4 0 [some (.ref 50), some (.ref a1), none, none] [] (xS I L z) b =
  K 4 [some (.ref 50), some (.ref a1), some (.int 0), some (.int 0)] [] (xS I L z) b := rfl
set_option maxRecDepth 100000 in
theorem b_X0_costInTruth_4 {C : xC} {Q : xQ} {K : xK} {I : xI} {L : xL} {z : Bool × Bool × Nat} {b : Nat × Nat} {a1 : Nat} {a2 : Int32} {a3 : Int32} :
  xrun k_X0_costInTruth 1 C Q [4, 29, 41] K 15 4 [some (.ref 50), some (.ref a1), some (.int a2), some (.int a3)] [] (xS I L z) b =
  (if a3 < (I 10 0) then (bif xalive (112, bif z.1 then 158 else 112, bif z.2.1 then 204 else 158) a1 && Nat.ble 20 (xkind a1) && !(Nat.beq (xkind a1) 24) then (if a3 < (Int32.ofNat (xlen z.2.2 (a1))) then (bif xisi (xS I L z) a1 then (if xin a3 (xlen z.2.2 (a1)) then C 3 [.ref 50, .int a3, .int (I a1 (Int32.toNatClampNeg a3))] (xS I L z) (fun r τ => K 29 [some (.ref 50), some (.ref a1), some (.int a2), some (.int a3)] (r.toList ++ []) τ b) else False) else False) else Q (some (.int a2)) (xS I L z)) else False) else Q (some (.int a2)) (xS I L z)) := rfl
set_option maxRecDepth 100000 in
theorem b_X0_costInTruth_29 {C : xC} {Q : xQ} {K : xK} {I : xI} {L : xL} {z : Bool × Bool × Nat} {b : Nat × Nat} {a1 : Nat} {a2 : Int32} {a3 : Int32} {s0 : Int32} :
  xrun k_X0_costInTruth 1 C Q [4, 29, 41] K 6 29 [some (.ref 50), some (.ref a1), some (.int a2), some (.int a3)] [.int s0] (xS I L z) b =
  (if s0 = 0 then C 94 [.ref 10, .int a3] (xS I L z) (fun r τ => K 41 [some (.ref 50), some (.ref a1), some (.int a2), some (.int a3)] (r.toList ++ [.int a2]) τ b) else K 4 [some (.ref 50), some (.ref a1), some (.int a2), some (.int (a3 + 1))] [] (xS I L z) b) := rfl
set_option maxRecDepth 100000 in
theorem b_X0_costInTruth_41 {C : xC} {Q : xQ} {K : xK} {I : xI} {L : xL} {z : Bool × Bool × Nat} {b : Nat × Nat} {a1 : Nat} {a2 : Int32} {a3 : Int32} {s1 : Int32} {s0 : Int32} :
  xrun k_X0_costInTruth 1 C Q [4, 29, 41] K 4 41 [some (.ref 50), some (.ref a1), some (.int a2), some (.int a3)] [.int s0, .int s1] (xS I L z) b =
  K 4 [some (.ref 50), some (.ref a1), some (.int (s1 + s0)), some (.int (a3 + 1))] [] (xS I L z) b := rfl
set_option maxRecDepth 100000 in
theorem b_X0_swapsOf_0 {C : xC} {Q : xQ} {K : xK} {I : xI} {L : xL} {z : Bool × Bool × Nat} {b : Nat × Nat} {a1 : Nat} :
  xrun k_X0_swapsOf 1 C Q [2, 31, 58] K 2 0 [some (.ref 50), some (.ref a1), none, none] [] (xS I L z) b =
  K 2 [some (.ref 50), some (.ref a1), some (.int 0), none] [] (xS I L z) b := rfl
set_option maxRecDepth 100000 in
theorem b_X0_swapsOf_2 {C : xC} {Q : xQ} {K : xK} {I : xI} {L : xL} {z : Bool × Bool × Nat} {b : Nat × Nat} {a1 : Nat} {a2 : Int32} :
  xrun k_X0_swapsOf 1 C Q [2, 31, 58] K 17 2 [some (.ref 50), some (.ref a1), some (.int a2), none] [] (xS I L z) b =
  (if a2 < (I 10 0) then (bif xalive (112, bif z.1 then 158 else 112, bif z.2.1 then 204 else 158) a1 && Nat.ble 20 (xkind a1) && !(Nat.beq (xkind a1) 24) then (if a2 < (Int32.ofNat (xlen z.2.2 (a1))) then (bif xisi (xS I L z) a1 then (if xin a2 (xlen z.2.2 (a1)) then C 82 [.ref 10, .int (I a1 (Int32.toNatClampNeg a2))] (xS I L z) (fun r τ => K 31 [some (.ref 50), some (.ref a1), some (.int a2), some (.int (I a1 (Int32.toNatClampNeg a2)))] (r.toList ++ []) τ b) else False) else False) else C 7 [.ref 50, .int 0, .int 0] (xS (xw I 50 7 (-1 : Int32)) L z) (fun r τ => K 58 [some (.ref 50), some (.ref a1), some (.int a2), none] (r.toList ++ []) τ b)) else False) else C 7 [.ref 50, .int 0, .int 0] (xS (xw I 50 7 (-1 : Int32)) L z) (fun r τ => K 58 [some (.ref 50), some (.ref a1), some (.int a2), none] (r.toList ++ []) τ b)) := rfl
set_option maxRecDepth 100000 in
theorem b_X0_swapsOf_31 {C : xC} {Q : xQ} {K : xK} {I : xI} {L : xL} {z : Bool × Bool × Nat} {b : Nat × Nat} {a1 : Nat} {a2 : Int32} {a3 : Int32} {s0 : Int32} :
  xrun k_X0_swapsOf 1 C Q [2, 31, 58] K 8 31 [some (.ref 50), some (.ref a1), some (.int a2), some (.int a3)] [.int s0] (xS I L z) b =
  (if s0 = 0 then K 2 [some (.ref 50), some (.ref a1), some (.int (a2 + 1)), some (.int a3)] [] (xS I L z) b else (if xin a3 (6) then K 2 [some (.ref 50), some (.ref a1), some (.int (a2 + 1)), some (.int a3)] [] (xS (xw I 54 (Int32.toNatClampNeg a3) a2) L z) b else False)) := rfl
set_option maxRecDepth 100000 in
theorem b_X0_swapsOf_58 {C : xC} {Q : xQ} {K : xK} {I : xI} {L : xL} {z : Bool × Bool × Nat} {b : Nat × Nat} {a1 : Nat} {a2 : Int32} :
  xrun k_X0_swapsOf 1 C Q [2, 31, 58] K 3 58 [some (.ref 50), some (.ref a1), some (.int a2), none] [] (xS I L z) b =
  Q (some (.int (I 50 7))) (xS I L z) := rfl
set_option maxRecDepth 100000 in
theorem b_X0_tryPlaces_0 {C : xC} {Q : xQ} {K : xK} {I : xI} {L : xL} {z : Bool × Bool × Nat} {b : Nat × Nat} {a1 : Int32} {a2 : Int32} :
  xrun k_X0_tryPlaces 0 C Q [31, 54, 60, 78] K 15 0 [some (.ref 50), some (.int a1), some (.int a2), none] [] (xS I L z) b =
  (if a1 < (I 10 0) then (if a1 < 6 then K 60 [some (.ref 50), some (.int a1), some (.int a2), some (.int 0)] [] (xS I L z) b else C 8 [.ref 50] (xS I L z) (fun r τ => K 31 [some (.ref 50), some (.int a1), some (.int a2), none] (r.toList ++ [.int (I 10 0)]) τ b)) else C 8 [.ref 50] (xS I L z) (fun r τ => K 31 [some (.ref 50), some (.int a1), some (.int a2), none] (r.toList ++ [.int (I 10 0)]) τ b)) := rfl
set_option maxRecDepth 100000 in
theorem b_X0_tryPlaces_31 {C : xC} {Q : xQ} {K : xK} {I : xI} {L : xL} {z : Bool × Bool × Nat} {b : Nat × Nat} {a1 : Int32} {a2 : Int32} {s1 : Int32} {s0 : Int32} :
  xrun k_X0_tryPlaces 0 C Q [31, 54, 60, 78] K 11 31 [some (.ref 50), some (.int a1), some (.int a2), none] [.int s0, .int s1] (xS I L z) b =
  (if (I 50 7) = (-1 : Int32) then K 54 [some (.ref 50), some (.int a1), some (.int a2), some (.int (s1 - s0))] [.int (s1 - s0), .ref 50] (xS I L z) b else K 54 [some (.ref 50), some (.int a1), some (.int a2), some (.int (s1 - s0))] [.int (if (I 50 7) < (s1 - s0) then I 50 7 else s1 - s0), .ref 50] (xS I L z) b) := rfl
set_option maxRecDepth 100000 in
theorem b_X0_tryPlaces_60 {C : xC} {Q : xQ} {K : xK} {I : xI} {L : xL} {z : Bool × Bool × Nat} {b : Nat × Nat} {a1 : Int32} {a2 : Int32} {a3 : Int32} :
  xrun k_X0_tryPlaces 0 C Q [31, 54, 60, 78] K 10 60 [some (.ref 50), some (.int a1), some (.int a2), some (.int a3)] [] (xS I L z) b =
  (if a3 < (I 10 0) then C 300 [.ref 50, .int a1, .int a3, .int a2] (xS I L z) (fun r τ => K 78 [some (.ref 50), some (.int a1), some (.int a2), some (.int a3)] (r.toList ++ []) τ b) else Q none (xS I L z)) := rfl
set_option maxRecDepth 100000 in
theorem b_X0_tryPlaces_54 {C : xC} {Q : xQ} {K : xK} {I : xI} {L : xL} {z : Bool × Bool × Nat} {b : Nat × Nat} {a1 : Int32} {a2 : Int32} {a3 : Int32} {s0 : Int32} :
  xrun k_X0_tryPlaces 0 C Q [31, 54, 60, 78] K 2 54 [some (.ref 50), some (.int a1), some (.int a2), some (.int a3)] [.int s0, .ref 50] (xS I L z) b =
  Q none (xS (xw I 50 7 s0) L z) := rfl
set_option maxRecDepth 100000 in
theorem b_X0_tryPlaces_78 {C : xC} {Q : xQ} {K : xK} {I : xI} {L : xL} {z : Bool × Bool × Nat} {b : Nat × Nat} {a1 : Int32} {a2 : Int32} {a3 : Int32} :
  xrun k_X0_tryPlaces 0 C Q [31, 54, 60, 78] K 2 78 [some (.ref 50), some (.int a1), some (.int a2), some (.int a3)] [] (xS I L z) b =
  K 60 [some (.ref 50), some (.int a1), some (.int a2), some (.int (a3 + 1))] [] (xS I L z) b := rfl
set_option maxRecDepth 100000 in
theorem b_X0_roundsOfTakes_0 {C : xC} {Q : xQ} {K : xK} {I : xI} {L : xL} {z : Bool × Bool × Nat} {b : Nat × Nat}  :
  xrun k_X0_roundsOfTakes 1 C Q [6, 34, 63] K 6 0 [some (.ref 50), none, none, none, none, none] [] (xS I L z) b =
  K 6 [some (.ref 50), some (.int 0), some (.int 0), some (.int 0), none, none] [] (xS I L z) b := rfl
set_option maxRecDepth 100000 in
theorem b_X0_roundsOfTakes_6 {C : xC} {Q : xQ} {K : xK} {I : xI} {L : xL} {z : Bool × Bool × Nat} {b : Nat × Nat} {a1 : Int32} {a2 : Int32} {a3 : Int32} :
  xrun k_X0_roundsOfTakes 1 C Q [6, 34, 63] K 16 6 [some (.ref 50), some (.int a1), some (.int a2), some (.int a3), none, none] [] (xS I L z) b =
  (if a3 < (I 10 0) then (if ((a2 >>> (a3 &&& 31)) &&& 1) = 0 then K 34 [some (.ref 50), some (.int (a1 + 1)), some (.int a2), some (.int a3), some (.int a3), some (.int 0)] [] (xS I L z) b else K 34 [some (.ref 50), some (.int a1), some (.int a2), some (.int a3), some (.int a3), some (.int 0)] [] (xS I L z) b) else Q (some (.int a1)) (xS I L z)) := rfl
set_option maxRecDepth 100000 in
theorem b_X0_roundsOfTakes_34 {C : xC} {Q : xQ} {K : xK} {I : xI} {L : xL} {z : Bool × Bool × Nat} {b : Nat × Nat} {a1 : Int32} {a2 : Int32} {a3 : Int32} {a4 : Int32} {a5 : Int32} :
  xrun k_X0_roundsOfTakes 1 C Q [6, 34, 63] K 18 34 [some (.ref 50), some (.int a1), some (.int a2), some (.int a3), some (.int a4), some (.int a5)] [] (xS I L z) b =
  (if a5 < 6 then (if ((a2 >>> (a4 &&& 31)) &&& 1) = 0 then C 9 [.ref 50, .int a4] (xS I L z) (fun r τ => K 63 [some (.ref 50), some (.int a1), some (.int (a2 ||| (1 <<< (a4 &&& 31)))), some (.int a3), some (.int a4), some (.int a5)] (r.toList ++ []) τ b) else K 6 [some (.ref 50), some (.int a1), some (.int a2), some (.int (a3 + 1)), some (.int a4), some (.int a5)] [] (xS I L z) b) else K 6 [some (.ref 50), some (.int a1), some (.int a2), some (.int (a3 + 1)), some (.int a4), some (.int a5)] [] (xS I L z) b) := rfl
set_option maxRecDepth 100000 in
theorem b_X0_roundsOfTakes_63 {C : xC} {Q : xQ} {K : xK} {I : xI} {L : xL} {z : Bool × Bool × Nat} {b : Nat × Nat} {a1 : Int32} {a2 : Int32} {a3 : Int32} {a4 : Int32} {a5 : Int32} {s0 : Int32} :
  xrun k_X0_roundsOfTakes 1 C Q [6, 34, 63] K 3 63 [some (.ref 50), some (.int a1), some (.int a2), some (.int a3), some (.int a4), some (.int a5)] [.int s0] (xS I L z) b =
  K 34 [some (.ref 50), some (.int a1), some (.int a2), some (.int a3), some (.int s0), some (.int (a5 + 1))] [] (xS I L z) b := rfl
set_option maxRecDepth 100000 in
theorem b_X0_findBest_0 {C : xC} {Q : xQ} {K : xK} {I : xI} {L : xL} {z : Bool × Bool × Nat} {b : Nat × Nat}  :
  xrun k_X0_findBest 0 C Q [4, 27, 28, 36, 66, 69, 80, 111] K 2 0 [some (.ref 50), none, none, none] [] (xS I L z) b =
  C 11 [.ref 50] (xS I L z) (fun r τ => K 4 [some (.ref 50), none, none, none] (r.toList ++ []) τ b) := rfl
set_option maxRecDepth 100000 in
theorem b_X0_findBest_4 {C : xC} {Q : xQ} {K : xK} {I : xI} {L : xL} {z : Bool × Bool × Nat} {b : Nat × Nat}  :
  xrun k_X0_findBest 0 C Q [4, 27, 28, 36, 66, 69, 80, 111] K 15 4 [some (.ref 50), none, none, none] [] (xS I L z) b =
  K 27 [some (.ref 50), some (.int (((1 : Int32) <<< ((I 10 0) &&& 31)) - 1)), none, none] [.int (if (((1 : Int32) <<< ((I 10 0) &&& 31)) - 1) < (64 - 1) then ((1 : Int32) <<< ((I 10 0) &&& 31)) - 1 else 64 - 1)] (xS I L z) b := rfl
set_option maxRecDepth 100000 in
theorem b_X0_findBest_27 {C : xC} {Q : xQ} {K : xK} {I : xI} {L : xL} {z : Bool × Bool × Nat} {b : Nat × Nat} {a1 : Int32} {s0 : Int32} :
  xrun k_X0_findBest 0 C Q [4, 27, 28, 36, 66, 69, 80, 111] K 1 27 [some (.ref 50), some (.int a1), none, none] [.int s0] (xS I L z) b =
  K 28 [some (.ref 50), some (.int a1), some (.int s0), none] [] (xS I L z) b := rfl
set_option maxRecDepth 100000 in
theorem b_X0_findBest_28 {C : xC} {Q : xQ} {K : xK} {I : xI} {L : xL} {z : Bool × Bool × Nat} {b : Nat × Nat} {a1 : Int32} {a2 : Int32} :
  xrun k_X0_findBest 0 C Q [4, 27, 28, 36, 66, 69, 80, 111] K 6 28 [some (.ref 50), some (.int a1), some (.int a2), none] [] (xS I L z) b =
  (if a2 < 0 then K 80 [some (.ref 50), some (.int a1), some (.int 0), some (.int 0)] [] (xS I L z) b else C 299 [.int a2] (xS I L z) (fun r τ => K 36 [some (.ref 50), some (.int a1), some (.int a2), none] (r.toList ++ []) τ b)) := rfl
set_option maxRecDepth 100000 in
theorem b_X0_findBest_36 {C : xC} {Q : xQ} {K : xK} {I : xI} {L : xL} {z : Bool × Bool × Nat} {b : Nat × Nat} {a1 : Int32} {a2 : Int32} {s0 : Int32} :
  xrun k_X0_findBest 0 C Q [4, 27, 28, 36, 66, 69, 80, 111] K 16 36 [some (.ref 50), some (.int a1), some (.int a2), none] [.int s0] (xS I L z) b =
  (if s0 < (I 10 0) then C 12 [.ref 50, .int s0, .int a2] (xS I L z) (fun r τ => K 66 [some (.ref 50), some (.int a1), some (.int a2), some (.int s0)] (r.toList ++ [.int a2, .int s0, .ref 50, .int a2, .ref 52]) τ b) else K 69 [some (.ref 50), some (.int a1), some (.int a2), some (.int s0)] [.int 0, .int a2, .ref 52] (xS I L z) b) := rfl
set_option maxRecDepth 100000 in
theorem b_X0_findBest_80 {C : xC} {Q : xQ} {K : xK} {I : xI} {L : xL} {z : Bool × Bool × Nat} {b : Nat × Nat} {a1 : Int32} {a2 : Int32} {a3 : Int32} :
  xrun k_X0_findBest 0 C Q [4, 27, 28, 36, 66, 69, 80, 111] K 17 80 [some (.ref 50), some (.int a1), some (.int a2), some (.int a3)] [] (xS I L z) b =
  (if a3 < (I 10 0) then (if a3 < 6 then C 12 [.ref 50, .int a3, .int a2] (xS I L z) (fun r τ => K 111 [some (.ref 50), some (.int a1), some (.int a2), some (.int a3)] (r.toList ++ [.int a3, .ref 53]) τ b) else Q none (xS I L z)) else Q none (xS I L z)) := rfl
set_option maxRecDepth 100000 in
theorem b_X0_findBest_66 {C : xC} {Q : xQ} {K : xK} {I : xI} {L : xL} {z : Bool × Bool × Nat} {b : Nat × Nat} {a1 : Int32} {a2 : Int32} {a3 : Int32} {s4 : Int32} {s2 : Int32} {s1 : Int32} {s0 : Int32} :
  xrun k_X0_findBest 0 C Q [4, 27, 28, 36, 66, 69, 80, 111] K 1 66 [some (.ref 50), some (.int a1), some (.int a2), some (.int a3)] [.int s0, .int s1, .int s2, .ref 50, .int s4, .ref 52] (xS I L z) b =
  C 13 [.ref 50, .int s2, .int s1, .int s0] (xS I L z) (fun r τ => K 69 [some (.ref 50), some (.int a1), some (.int a2), some (.int a3)] (r.toList ++ [.int s4, .ref 52]) τ b) := rfl
set_option maxRecDepth 100000 in
theorem b_X0_findBest_69 {C : xC} {Q : xQ} {K : xK} {I : xI} {L : xL} {z : Bool × Bool × Nat} {b : Nat × Nat} {a1 : Int32} {a2 : Int32} {a3 : Int32} {s1 : Int32} {s0 : Int32} :
  xrun k_X0_findBest 0 C Q [4, 27, 28, 36, 66, 69, 80, 111] K 3 69 [some (.ref 50), some (.int a1), some (.int a2), some (.int a3)] [.int s0, .int s1, .ref 52] (xS I L z) b =
  (if xin s1 (64) then K 28 [some (.ref 50), some (.int a1), some (.int (a2 + (-1 : Int32))), some (.int a3)] [] (xS (xw I 52 (Int32.toNatClampNeg s1) s0) L z) b else False) := rfl
set_option maxRecDepth 100000 in
theorem b_X0_findBest_111 {C : xC} {Q : xQ} {K : xK} {I : xI} {L : xL} {z : Bool × Bool × Nat} {b : Nat × Nat} {a1 : Int32} {a2 : Int32} {a3 : Int32} {s1 : Int32} {s0 : Int32} :
  xrun k_X0_findBest 0 C Q [4, 27, 28, 36, 66, 69, 80, 111] K 12 111 [some (.ref 50), some (.int a1), some (.int a2), some (.int a3)] [.int s0, .int s1, .ref 53] (xS I L z) b =
  (if xin s1 (6) then (if xin a3 (6) then K 80 [some (.ref 50), some (.int a1), some (.int (a2 ||| ((1 : Int32) <<< (((xw I 53 (Int32.toNatClampNeg s1) s0) 53 (Int32.toNatClampNeg a3)) &&& 31)))), some (.int (a3 + 1))] [] (xS (xw I 53 (Int32.toNatClampNeg s1) s0) L z) b else False) else False) := rfl
set_option maxRecDepth 100000 in
theorem b_X0_weighPlaces_0 {C : xC} {Q : xQ} {K : xK} {I : xI} {L : xL} {z : Bool × Bool × Nat} {b : Nat × Nat}  :
  xrun k_X0_weighPlaces 0 C Q [2, 10, 34, 40] K 2 0 [some (.ref 50), none, none] [] (xS I L z) b =
  K 2 [some (.ref 50), some (.int 0), none] [] (xS I L z) b := rfl
set_option maxRecDepth 100000 in
theorem b_X0_weighPlaces_2 {C : xC} {Q : xQ} {K : xK} {I : xI} {L : xL} {z : Bool × Bool × Nat} {b : Nat × Nat} {a1 : Int32} :
  xrun k_X0_weighPlaces 0 C Q [2, 10, 34, 40] K 5 2 [some (.ref 50), some (.int a1), none] [] (xS I L z) b =
  (if a1 < 6 then K 10 [some (.ref 50), some (.int a1), some (.int 0)] [] (xS I L z) b else Q none (xS I L z)) := rfl
set_option maxRecDepth 100000 in
theorem b_X0_weighPlaces_10 {C : xC} {Q : xQ} {K : xK} {I : xI} {L : xL} {z : Bool × Bool × Nat} {b : Nat × Nat} {a1 : Int32} {a2 : Int32} :
  xrun k_X0_weighPlaces 0 C Q [2, 10, 34, 40] K 14 10 [some (.ref 50), some (.int a1), some (.int a2)] [] (xS I L z) b =
  (if a2 < 6 then C 94 [.ref 10, .int a1] (xS I L z) (fun r τ => K 34 [some (.ref 50), some (.int a1), some (.int a2)] (r.toList ++ [.int ((a1 * 6) + a2), .ref 51]) τ b) else K 2 [some (.ref 50), some (.int (a1 + 1)), some (.int a2)] [] (xS I L z) b) := rfl
set_option maxRecDepth 100000 in
theorem b_X0_weighPlaces_34 {C : xC} {Q : xQ} {K : xK} {I : xI} {L : xL} {z : Bool × Bool × Nat} {b : Nat × Nat} {a1 : Int32} {a2 : Int32} {s1 : Int32} {s0 : Int32} :
  xrun k_X0_weighPlaces 0 C Q [2, 10, 34, 40] K 4 34 [some (.ref 50), some (.int a1), some (.int a2)] [.int s0, .int s1, .ref 51] (xS I L z) b =
  C 2 [.ref 50, .int a1, .int a2] (xS I L z) (fun r τ => K 40 [some (.ref 50), some (.int a1), some (.int a2)] (r.toList ++ [.int s0, .int s1, .ref 51]) τ b) := rfl
set_option maxRecDepth 100000 in
theorem b_X0_weighPlaces_40 {C : xC} {Q : xQ} {K : xK} {I : xI} {L : xL} {z : Bool × Bool × Nat} {b : Nat × Nat} {a1 : Int32} {a2 : Int32} {s2 : Int32} {s1 : Int32} {s0 : Int32} :
  xrun k_X0_weighPlaces 0 C Q [2, 10, 34, 40] K 4 40 [some (.ref 50), some (.int a1), some (.int a2)] [.int s0, .int s1, .int s2, .ref 51] (xS I L z) b =
  (if xin s2 (36) then K 10 [some (.ref 50), some (.int a1), some (.int (a2 + 1))] [] (xS (xw I 51 (Int32.toNatClampNeg s2) (s1 * s0)) L z) b else False) := rfl
set_option maxRecDepth 100000 in
theorem b_X0_firstBest_0 {C : xC} {Q : xQ} {K : xK} {I : xI} {L : xL} {z : Bool × Bool × Nat} {b : Nat × Nat} {a1 : Int32} {a2 : Int32} :
  xrun k_X0_firstBest 1 C Q [5, 39, 46] K 4 0 [some (.ref 50), some (.int a1), some (.int a2), none, none] [] (xS I L z) b =
  K 5 [some (.ref 50), some (.int a1), some (.int a2), some (.int (-1 : Int32)), some (.int 0)] [] (xS I L z) b := rfl
set_option maxRecDepth 100000 in
theorem b_X0_firstBest_5 {C : xC} {Q : xQ} {K : xK} {I : xI} {L : xL} {z : Bool × Bool × Nat} {b : Nat × Nat} {a1 : Int32} {a2 : Int32} {a3 : Int32} {a4 : Int32} :
  xrun k_X0_firstBest 1 C Q [5, 39, 46] K 19 5 [some (.ref 50), some (.int a1), some (.int a2), some (.int a3), some (.int a4)] [] (xS I L z) b =
  (if a4 < (I 10 0) then (if ((a2 >>> (a4 &&& 31)) &&& 1) = 0 then (if a3 = (-1 : Int32) then K 5 [some (.ref 50), some (.int a1), some (.int a2), some (.int a4), some (.int (a4 + 1))] [] (xS I L z) b else C 13 [.ref 50, .int a1, .int a2, .int a4] (xS I L z) (fun r τ => K 39 [some (.ref 50), some (.int a1), some (.int a2), some (.int a3), some (.int a4)] (r.toList ++ []) τ b)) else K 5 [some (.ref 50), some (.int a1), some (.int a2), some (.int a3), some (.int (a4 + 1))] [] (xS I L z) b) else Q (some (.int a3)) (xS I L z)) := rfl
set_option maxRecDepth 100000 in
theorem b_X0_firstBest_39 {C : xC} {Q : xQ} {K : xK} {I : xI} {L : xL} {z : Bool × Bool × Nat} {b : Nat × Nat} {a1 : Int32} {a2 : Int32} {a3 : Int32} {a4 : Int32} {s0 : Int32} :
  xrun k_X0_firstBest 1 C Q [5, 39, 46] K 5 39 [some (.ref 50), some (.int a1), some (.int a2), some (.int a3), some (.int a4)] [.int s0] (xS I L z) b =
  C 13 [.ref 50, .int a1, .int a2, .int a3] (xS I L z) (fun r τ => K 46 [some (.ref 50), some (.int a1), some (.int a2), some (.int a3), some (.int a4)] (r.toList ++ [.int s0]) τ b) := rfl
set_option maxRecDepth 100000 in
theorem b_X0_firstBest_46 {C : xC} {Q : xQ} {K : xK} {I : xI} {L : xL} {z : Bool × Bool × Nat} {b : Nat × Nat} {a1 : Int32} {a2 : Int32} {a3 : Int32} {a4 : Int32} {s1 : Int32} {s0 : Int32} :
  xrun k_X0_firstBest 1 C Q [5, 39, 46] K 5 46 [some (.ref 50), some (.int a1), some (.int a2), some (.int a3), some (.int a4)] [.int s0, .int s1] (xS I L z) b =
  (if s1 < s0 then K 5 [some (.ref 50), some (.int a1), some (.int a2), some (.int a4), some (.int (a4 + 1))] [] (xS I L z) b else K 5 [some (.ref 50), some (.int a1), some (.int a2), some (.int a3), some (.int (a4 + 1))] [] (xS I L z) b) := rfl
set_option maxRecDepth 100000 in
theorem b_X0_guestWhoMindsMost_0 {C : xC} {Q : xQ} {K : xK} {I : xI} {L : xL} {z : Bool × Bool × Nat} {b : Nat × Nat}  :
  xrun k_X0_guestWhoMindsMost 1 C Q [4, 23, 31] K 4 0 [some (.ref 50), none, none] [] (xS I L z) b =
  K 4 [some (.ref 50), some (.int 0), some (.int 1)] [] (xS I L z) b := rfl
set_option maxRecDepth 100000 in
theorem b_X0_guestWhoMindsMost_4 {C : xC} {Q : xQ} {K : xK} {I : xI} {L : xL} {z : Bool × Bool × Nat} {b : Nat × Nat} {a1 : Int32} {a2 : Int32} :
  xrun k_X0_guestWhoMindsMost 1 C Q [4, 23, 31] K 9 4 [some (.ref 50), some (.int a1), some (.int a2)] [] (xS I L z) b =
  (if a2 < (I 10 0) then C 94 [.ref 10, .int a2] (xS I L z) (fun r τ => K 23 [some (.ref 50), some (.int a1), some (.int a2)] (r.toList ++ []) τ b) else Q (some (.int a1)) (xS I L z)) := rfl
set_option maxRecDepth 100000 in
theorem b_X0_guestWhoMindsMost_23 {C : xC} {Q : xQ} {K : xK} {I : xI} {L : xL} {z : Bool × Bool × Nat} {b : Nat × Nat} {a1 : Int32} {a2 : Int32} {s0 : Int32} :
  xrun k_X0_guestWhoMindsMost 1 C Q [4, 23, 31] K 4 23 [some (.ref 50), some (.int a1), some (.int a2)] [.int s0] (xS I L z) b =
  C 94 [.ref 10, .int a1] (xS I L z) (fun r τ => K 31 [some (.ref 50), some (.int a1), some (.int a2)] (r.toList ++ [.int s0]) τ b) := rfl
set_option maxRecDepth 100000 in
theorem b_X0_guestWhoMindsMost_31 {C : xC} {Q : xQ} {K : xK} {I : xI} {L : xL} {z : Bool × Bool × Nat} {b : Nat × Nat} {a1 : Int32} {a2 : Int32} {s1 : Int32} {s0 : Int32} :
  xrun k_X0_guestWhoMindsMost 1 C Q [4, 23, 31] K 5 31 [some (.ref 50), some (.int a1), some (.int a2)] [.int s0, .int s1] (xS I L z) b =
  (if s0 < s1 then K 4 [some (.ref 50), some (.int a2), some (.int (a2 + 1))] [] (xS I L z) b else K 4 [some (.ref 50), some (.int a1), some (.int (a2 + 1))] [] (xS I L z) b) := rfl
set_option maxRecDepth 100000 in
theorem b_X1_splitOf_0 {C : xC} {Q : xQ} {K : xK} {I : xI} {L : xL} {z : Bool × Bool × Nat} {b : Nat × Nat} {a1 : Int32} {a2 : Int32} :
  xrun k_X1_splitOf 1 C Q [5, 23] K 4 0 [some (.ref 43), some (.int a1), some (.int a2), none, none] [] (xS I L z) b =
  K 5 [some (.ref 43), some (.int a1), some (.int a2), some (.int 0), some (.int 0)] [] (xS I L z) b := rfl
set_option maxRecDepth 100000 in
theorem b_X1_splitOf_5 {C : xC} {Q : xQ} {K : xK} {I : xI} {L : xL} {z : Bool × Bool × Nat} {b : Nat × Nat} {a1 : Int32} {a2 : Int32} {a3 : Int32} {a4 : Int32} :
  xrun k_X1_splitOf 1 C Q [5, 23] K 9 5 [some (.ref 43), some (.int a1), some (.int a2), some (.int a3), some (.int a4)] [] (xS I L z) b =
  (if 9 < a4 then Q (some (.int a3)) (xS I L z) else C 126 [.ref 37, .int a1, .int a2, .int a4] (xS I L z) (fun r τ => K 23 [some (.ref 43), some (.int a1), some (.int a2), some (.int a3), some (.int a4)] (r.toList ++ []) τ b)) := rfl
set_option maxRecDepth 100000 in
theorem b_X1_splitOf_23 {C : xC} {Q : xQ} {K : xK} {I : xI} {L : xL} {z : Bool × Bool × Nat} {b : Nat × Nat} {a1 : Int32} {a2 : Int32} {a3 : Int32} {a4 : Int32} {s0 : Int32} :
  xrun k_X1_splitOf 1 C Q [5, 23] K 4 23 [some (.ref 43), some (.int a1), some (.int a2), some (.int a3), some (.int a4)] [.int s0] (xS I L z) b =
  (if 0 < s0 then K 5 [some (.ref 43), some (.int a1), some (.int a2), some (.int (a3 + 1)), some (.int (a4 + 1))] [] (xS I L z) b else K 5 [some (.ref 43), some (.int a1), some (.int a2), some (.int a3), some (.int (a4 + 1))] [] (xS I L z) b) := rfl
set_option maxRecDepth 100000 in
theorem b_X1_worstOf_0 {C : xC} {Q : xQ} {K : xK} {I : xI} {L : xL} {z : Bool × Bool × Nat} {b : Nat × Nat} {a1 : Int32} {a2 : Int32} :
  xrun k_X1_worstOf 1 C Q [5, 24, 27] K 4 0 [some (.ref 43), some (.int a1), some (.int a2), none, none] [] (xS I L z) b =
  K 5 [some (.ref 43), some (.int a1), some (.int a2), some (.int 0), some (.int 0)] [] (xS I L z) b := rfl
set_option maxRecDepth 100000 in
theorem b_X1_worstOf_5 {C : xC} {Q : xQ} {K : xK} {I : xI} {L : xL} {z : Bool × Bool × Nat} {b : Nat × Nat} {a1 : Int32} {a2 : Int32} {a3 : Int32} {a4 : Int32} :
  xrun k_X1_worstOf 1 C Q [5, 24, 27] K 10 5 [some (.ref 43), some (.int a1), some (.int a2), some (.int a3), some (.int a4)] [] (xS I L z) b =
  (if 9 < a4 then Q (some (.int a3)) (xS I L z) else C 126 [.ref 37, .int a1, .int a2, .int a4] (xS I L z) (fun r τ => K 24 [some (.ref 43), some (.int a1), some (.int a2), some (.int a3), some (.int a4)] (r.toList ++ [.int a3]) τ b)) := rfl
set_option maxRecDepth 100000 in
theorem b_X1_worstOf_24 {C : xC} {Q : xQ} {K : xK} {I : xI} {L : xL} {z : Bool × Bool × Nat} {b : Nat × Nat} {a1 : Int32} {a2 : Int32} {a3 : Int32} {a4 : Int32} {s1 : Int32} {s0 : Int32} :
  xrun k_X1_worstOf 1 C Q [5, 24, 27] K 1 24 [some (.ref 43), some (.int a1), some (.int a2), some (.int a3), some (.int a4)] [.int s0, .int s1] (xS I L z) b =
  K 27 [some (.ref 43), some (.int a1), some (.int a2), some (.int a3), some (.int a4)] [.int (if s1 < s0 then s0 else s1)] (xS I L z) b := rfl
set_option maxRecDepth 100000 in
theorem b_X1_worstOf_27 {C : xC} {Q : xQ} {K : xK} {I : xI} {L : xL} {z : Bool × Bool × Nat} {b : Nat × Nat} {a1 : Int32} {a2 : Int32} {a3 : Int32} {a4 : Int32} {s0 : Int32} :
  xrun k_X1_worstOf 1 C Q [5, 24, 27] K 3 27 [some (.ref 43), some (.int a1), some (.int a2), some (.int a3), some (.int a4)] [.int s0] (xS I L z) b =
  K 5 [some (.ref 43), some (.int a1), some (.int a2), some (.int s0), some (.int (a4 + 1))] [] (xS I L z) b := rfl
set_option maxRecDepth 100000 in
theorem b_X1_nextOf_0 {C : xC} {Q : xQ} {K : xK} {I : xI} {L : xL} {z : Bool × Bool × Nat} {b : Nat × Nat} {a1 : Int32} :
  xrun k_X1_nextOf 1 C Q [9, 24, 48, 52] K 6 0 [some (.ref 43), some (.int a1), none, none, none, none, none] [] (xS I L z) b =
  K 9 [some (.ref 43), some (.int a1), some (.int (-1 : Int32)), some (.int 721), some (.int 0), none, none] [] (xS I L z) b := rfl
set_option maxRecDepth 100000 in
theorem b_X1_nextOf_9 {C : xC} {Q : xQ} {K : xK} {I : xI} {L : xL} {z : Bool × Bool × Nat} {b : Nat × Nat} {a1 : Int32} {a2 : Int32} {a3 : Int32} {a4 : Int32} :
  xrun k_X1_nextOf 1 C Q [9, 24, 48, 52] K 7 9 [some (.ref 43), some (.int a1), some (.int a2), some (.int a3), some (.int a4), none, none] [] (xS I L z) b =
  (if a4 < (I 10 0) then K 24 [some (.ref 43), some (.int a1), some (.int a2), some (.int a3), some (.int a4), some (.int 0), none] [] (xS I L z) b else Q (some (.int a2)) (xS I L z)) := rfl
set_option maxRecDepth 100000 in
theorem b_X1_nextOf_24 {C : xC} {Q : xQ} {K : xK} {I : xI} {L : xL} {z : Bool × Bool × Nat} {b : Nat × Nat} {a1 : Int32} {a2 : Int32} {a3 : Int32} {a4 : Int32} {a5 : Int32} :
  xrun k_X1_nextOf 1 C Q [9, 24, 48, 52] K 14 24 [some (.ref 43), some (.int a1), some (.int a2), some (.int a3), some (.int a4), some (.int a5), none] [] (xS I L z) b =
  (if a5 < 4 then (if ((a1 >>> (a5 &&& 31)) &&& 1) = 1 then C 19 [.ref 43, .int a4, .int a5] (xS I L z) (fun r τ => K 48 [some (.ref 43), some (.int a1), some (.int a2), some (.int a3), some (.int a4), some (.int a5), none] (r.toList ++ []) τ b) else K 52 [some (.ref 43), some (.int a1), some (.int a2), some (.int a3), some (.int a4), some (.int a5), none] [.int a3] (xS I L z) b) else K 9 [some (.ref 43), some (.int a1), some (.int a2), some (.int a3), some (.int (a4 + 1)), some (.int a5), none] [] (xS I L z) b) := rfl
set_option maxRecDepth 100000 in
theorem b_X1_nextOf_48 {C : xC} {Q : xQ} {K : xK} {I : xI} {L : xL} {z : Bool × Bool × Nat} {b : Nat × Nat} {a1 : Int32} {a2 : Int32} {a3 : Int32} {a4 : Int32} {a5 : Int32} {s0 : Int32} :
  xrun k_X1_nextOf 1 C Q [9, 24, 48, 52] K 1 48 [some (.ref 43), some (.int a1), some (.int a2), some (.int a3), some (.int a4), some (.int a5), none] [.int s0] (xS I L z) b =
  K 52 [some (.ref 43), some (.int a1), some (.int a2), some (.int a3), some (.int a4), some (.int a5), none] [.int s0] (xS I L z) b := rfl
set_option maxRecDepth 100000 in
theorem b_X1_nextOf_52 {C : xC} {Q : xQ} {K : xK} {I : xI} {L : xL} {z : Bool × Bool × Nat} {b : Nat × Nat} {a1 : Int32} {a2 : Int32} {a3 : Int32} {a4 : Int32} {a5 : Int32} {s0 : Int32} :
  xrun k_X1_nextOf 1 C Q [9, 24, 48, 52] K 14 52 [some (.ref 43), some (.int a1), some (.int a2), some (.int a3), some (.int a4), some (.int a5), none] [.int s0] (xS I L z) b =
  (if s0 < a3 then K 24 [some (.ref 43), some (.int a1), some (.int ((10 * a4) + a5)), some (.int s0), some (.int a4), some (.int (a5 + 1)), some (.int s0)] [] (xS I L z) b else K 24 [some (.ref 43), some (.int a1), some (.int a2), some (.int a3), some (.int a4), some (.int (a5 + 1)), some (.int s0)] [] (xS I L z) b) := rfl
set_option maxRecDepth 100000 in
theorem b_X1_placesThatTell_0 {C : xC} {Q : xQ} {K : xK} {I : xI} {L : xL} {z : Bool × Bool × Nat} {b : Nat × Nat}  :
  xrun k_X1_placesThatTell 1 C Q [12, 25, 34, 43] K 8 0 [some (.ref 43), none, none, none] [] (xS I L z) b =
  K 12 [some (.ref 43), some (.int ((1 : Int32) <<< ((I 10 0) &&& 31))), some (.int 0), none] [] (xS I L z) b := rfl
set_option maxRecDepth 100000 in
theorem b_X1_placesThatTell_12 {C : xC} {Q : xQ} {K : xK} {I : xI} {L : xL} {z : Bool × Bool × Nat} {b : Nat × Nat} {a1 : Int32} {a2 : Int32} :
  xrun k_X1_placesThatTell 1 C Q [12, 25, 34, 43] K 9 12 [some (.ref 43), some (.int a1), some (.int a2), none] [] (xS I L z) b =
  (if (I 10 0) < a2 then Q (some (.int (a1 - 1))) (xS I L z) else K 25 [some (.ref 43), some (.int a1), some (.int a2), some (.int 0)] [] (xS I L z) b) := rfl
set_option maxRecDepth 100000 in
theorem b_X1_placesThatTell_25 {C : xC} {Q : xQ} {K : xK} {I : xI} {L : xL} {z : Bool × Bool × Nat} {b : Nat × Nat} {a1 : Int32} {a2 : Int32} {a3 : Int32} :
  xrun k_X1_placesThatTell 1 C Q [12, 25, 34, 43] K 5 25 [some (.ref 43), some (.int a1), some (.int a2), some (.int a3)] [] (xS I L z) b =
  (if a3 < a1 then C 299 [.int a3] (xS I L z) (fun r τ => K 34 [some (.ref 43), some (.int a1), some (.int a2), some (.int a3)] (r.toList ++ []) τ b) else K 12 [some (.ref 43), some (.int a1), some (.int (a2 + 1)), some (.int a3)] [] (xS I L z) b) := rfl
set_option maxRecDepth 100000 in
theorem b_X1_placesThatTell_34 {C : xC} {Q : xQ} {K : xK} {I : xI} {L : xL} {z : Bool × Bool × Nat} {b : Nat × Nat} {a1 : Int32} {a2 : Int32} {a3 : Int32} {s0 : Int32} :
  xrun k_X1_placesThatTell 1 C Q [12, 25, 34, 43] K 5 34 [some (.ref 43), some (.int a1), some (.int a2), some (.int a3)] [.int s0] (xS I L z) b =
  (if s0 = a2 then C 22 [.ref 43, .int a3] (xS I L z) (fun r τ => K 43 [some (.ref 43), some (.int a1), some (.int a2), some (.int a3)] (r.toList ++ []) τ b) else K 25 [some (.ref 43), some (.int a1), some (.int a2), some (.int (a3 + 1))] [] (xS I L z) b) := rfl
set_option maxRecDepth 100000 in
theorem b_X1_placesThatTell_43 {C : xC} {Q : xQ} {K : xK} {I : xI} {L : xL} {z : Bool × Bool × Nat} {b : Nat × Nat} {a1 : Int32} {a2 : Int32} {a3 : Int32} {s0 : Int32} :
  xrun k_X1_placesThatTell 1 C Q [12, 25, 34, 43] K 3 43 [some (.ref 43), some (.int a1), some (.int a2), some (.int a3)] [.int s0] (xS I L z) b =
  (if s0 = 0 then K 25 [some (.ref 43), some (.int a1), some (.int a2), some (.int (a3 + 1))] [] (xS I L z) b else Q (some (.int a3)) (xS I L z)) := rfl
set_option maxRecDepth 100000 in
theorem b_X1_isToldBy_0 {C : xC} {Q : xQ} {K : xK} {I : xI} {L : xL} {z : Bool × Bool × Nat} {b : Nat × Nat} {a1 : Int32} :
  xrun k_X1_isToldBy 2 C Q [4, 31, 46, 48, 71, 76] K 4 0 [some (.ref 43), some (.int a1), none, none] [] (xS I L z) b =
  K 4 [some (.ref 43), some (.int a1), some (.int 0), some (.int 0)] [] (xS I L z) b := rfl
set_option maxRecDepth 100000 in
theorem b_X1_isToldBy_4 {C : xC} {Q : xQ} {K : xK} {I : xI} {L : xL} {z : Bool × Bool × Nat} {b : Nat × Nat} {a1 : Int32} {a2 : Int32} {a3 : Int32} :
  xrun k_X1_isToldBy 2 C Q [4, 31, 46, 48, 71, 76] K 16 4 [some (.ref 43), some (.int a1), some (.int a2), some (.int a3)] [] (xS I L z) b =
  (if a3 < (I 10 0) then (if ((a1 >>> (a3 &&& 31)) &&& 1) = 1 then C 112 [.int 7, .int a3] (xS I L z) (fun r τ => K 31 [some (.ref 43), some (.int a1), some (.int a2), some (.int a3)] (r.toList ++ [.int a2]) τ b) else K 4 [some (.ref 43), some (.int a1), some (.int a2), some (.int (a3 + 1))] [] (xS I L z) b) else C 53 [.ref 44] (xS I L z) (fun r τ => K 46 [some (.ref 43), some (.int a1), some (.int a2), some (.int a3)] (r.toList ++ []) τ b)) := rfl
set_option maxRecDepth 100000 in
theorem b_X1_isToldBy_31 {C : xC} {Q : xQ} {K : xK} {I : xI} {L : xL} {z : Bool × Bool × Nat} {b : Nat × Nat} {a1 : Int32} {a2 : Int32} {a3 : Int32} {s1 : Int32} {s0 : Int32} :
  xrun k_X1_isToldBy 2 C Q [4, 31, 46, 48, 71, 76] K 4 31 [some (.ref 43), some (.int a1), some (.int a2), some (.int a3)] [.int s0, .int s1] (xS I L z) b =
  K 4 [some (.ref 43), some (.int a1), some (.int (s1 ||| s0)), some (.int (a3 + 1))] [] (xS I L z) b := rfl
set_option maxRecDepth 100000 in
theorem b_X1_isToldBy_46 {C : xC} {Q : xQ} {K : xK} {I : xI} {L : xL} {z : Bool × Bool × Nat} {b : Nat × Nat} {a1 : Int32} {a2 : Int32} {a3 : Int32} :
  xrun k_X1_isToldBy 2 C Q [4, 31, 46, 48, 71, 76] K 2 46 [some (.ref 43), some (.int a1), some (.int a2), some (.int a3)] [] (xS I L z) b =
  K 48 [some (.ref 43), some (.int a1), some (.int a2), some (.int 0)] [] (xS I L z) b := rfl
set_option maxRecDepth 100000 in
theorem b_X1_isToldBy_48 {C : xC} {Q : xQ} {K : xK} {I : xI} {L : xL} {z : Bool × Bool × Nat} {b : Nat × Nat} {a1 : Int32} {a2 : Int32} {a3 : Int32} :
  xrun k_X1_isToldBy 2 C Q [4, 31, 46, 48, 71, 76] K 11 48 [some (.ref 43), some (.int a1), some (.int a2), some (.int a3)] [] (xS I L z) b =
  (if a3 < (I 37 1) then C 123 [.ref 37, .int a3] (xS I L z) (fun r τ => K 71 [some (.ref 43), some (.int a1), some (.int a2), some (.int a3)] (r.toList ++ [.ref 44]) τ b) else Q (some (.int 1)) (xS I L z)) := rfl
set_option maxRecDepth 100000 in
theorem b_X1_isToldBy_71 {C : xC} {Q : xQ} {K : xK} {I : xI} {L : xL} {z : Bool × Bool × Nat} {b : Nat × Nat} {a1 : Int32} {a2 : Int32} {a3 : Int32} {s0 : Int32} :
  xrun k_X1_isToldBy 2 C Q [4, 31, 46, 48, 71, 76] K 3 71 [some (.ref 43), some (.int a1), some (.int a2), some (.int a3)] [.int s0, .ref 44] (xS I L z) b =
  C 54 [.ref 44, .int (s0 &&& a2)] (xS I L z) (fun r τ => K 76 [some (.ref 43), some (.int a1), some (.int a2), some (.int a3)] (r.toList ++ []) τ b) := rfl
set_option maxRecDepth 100000 in
theorem b_X1_isToldBy_76 {C : xC} {Q : xQ} {K : xK} {I : xI} {L : xL} {z : Bool × Bool × Nat} {b : Nat × Nat} {a1 : Int32} {a2 : Int32} {a3 : Int32} {s0 : Int32} :
  xrun k_X1_isToldBy 2 C Q [4, 31, 46, 48, 71, 76] K 4 76 [some (.ref 43), some (.int a1), some (.int a2), some (.int a3)] [.int s0] (xS I L z) b =
  (if 1 < s0 then Q (some (.int 0)) (xS I L z) else K 48 [some (.ref 43), some (.int a1), some (.int a2), some (.int (a3 + 1))] [] (xS I L z) b) := rfl
set_option maxRecDepth 100000 in
theorem b_X1_mostAlike_0 {C : xC} {Q : xQ} {K : xK} {I : xI} {L : xL} {z : Bool × Bool × Nat} {b : Nat × Nat} {a1 : Int32} :
  xrun k_X1_mostAlike 1 C Q [5, 12, 16, 41, 44, 47, 50] K 3 0 [some (.ref 43), some (.int a1), none, none] [] (xS I L z) b =
  C 24 [.ref 43, .int a1] (xS I L z) (fun r τ => K 5 [some (.ref 43), some (.int a1), none, none] (r.toList ++ []) τ b) := rfl
set_option maxRecDepth 100000 in
theorem b_X1_mostAlike_5 {C : xC} {Q : xQ} {K : xK} {I : xI} {L : xL} {z : Bool × Bool × Nat} {b : Nat × Nat} {a1 : Int32} :
  xrun k_X1_mostAlike 1 C Q [5, 12, 16, 41, 44, 47, 50] K 3 5 [some (.ref 43), some (.int a1), none, none] [] (xS I L z) b =
  C 53 [.ref 44] (xS I L z) (fun r τ => K 12 [some (.ref 43), some (.int a1), none, none] (r.toList ++ []) τ b) := rfl
set_option maxRecDepth 100000 in
theorem b_X1_mostAlike_12 {C : xC} {Q : xQ} {K : xK} {I : xI} {L : xL} {z : Bool × Bool × Nat} {b : Nat × Nat} {a1 : Int32} :
  xrun k_X1_mostAlike 1 C Q [5, 12, 16, 41, 44, 47, 50] K 4 12 [some (.ref 43), some (.int a1), none, none] [] (xS I L z) b =
  K 16 [some (.ref 43), some (.int a1), some (.int 0), some (.int 0)] [] (xS I L z) b := rfl
set_option maxRecDepth 100000 in
theorem b_X1_mostAlike_16 {C : xC} {Q : xQ} {K : xK} {I : xI} {L : xL} {z : Bool × Bool × Nat} {b : Nat × Nat} {a1 : Int32} {a2 : Int32} {a3 : Int32} :
  xrun k_X1_mostAlike 1 C Q [5, 12, 16, 41, 44, 47, 50] K 13 16 [some (.ref 43), some (.int a1), some (.int a2), some (.int a3)] [] (xS I L z) b =
  (if a3 < (I 37 0) then C 122 [.ref 37, .int a3] (xS I L z) (fun r τ => K 41 [some (.ref 43), some (.int a1), some (.int a2), some (.int a3)] (r.toList ++ [.ref 43, .ref 44, .int a2]) τ b) else Q (some (.int a2)) (xS I L z)) := rfl
set_option maxRecDepth 100000 in
theorem b_X1_mostAlike_41 {C : xC} {Q : xQ} {K : xK} {I : xI} {L : xL} {z : Bool × Bool × Nat} {b : Nat × Nat} {a1 : Int32} {a2 : Int32} {a3 : Int32} {s3 : Int32} {s0 : Int32} :
  xrun k_X1_mostAlike 1 C Q [5, 12, 16, 41, 44, 47, 50] K 1 41 [some (.ref 43), some (.int a1), some (.int a2), some (.int a3)] [.int s0, .ref 43, .ref 44, .int s3] (xS I L z) b =
  C 26 [.ref 43, .int s0] (xS I L z) (fun r τ => K 44 [some (.ref 43), some (.int a1), some (.int a2), some (.int a3)] (r.toList ++ [.ref 44, .int s3]) τ b) := rfl
set_option maxRecDepth 100000 in
theorem b_X1_mostAlike_44 {C : xC} {Q : xQ} {K : xK} {I : xI} {L : xL} {z : Bool × Bool × Nat} {b : Nat × Nat} {a1 : Int32} {a2 : Int32} {a3 : Int32} {s2 : Int32} {s0 : Int32} :
  xrun k_X1_mostAlike 1 C Q [5, 12, 16, 41, 44, 47, 50] K 1 44 [some (.ref 43), some (.int a1), some (.int a2), some (.int a3)] [.int s0, .ref 44, .int s2] (xS I L z) b =
  C 54 [.ref 44, .int s0] (xS I L z) (fun r τ => K 47 [some (.ref 43), some (.int a1), some (.int a2), some (.int a3)] (r.toList ++ [.int s2]) τ b) := rfl
set_option maxRecDepth 100000 in
theorem b_X1_mostAlike_47 {C : xC} {Q : xQ} {K : xK} {I : xI} {L : xL} {z : Bool × Bool × Nat} {b : Nat × Nat} {a1 : Int32} {a2 : Int32} {a3 : Int32} {s1 : Int32} {s0 : Int32} :
  xrun k_X1_mostAlike 1 C Q [5, 12, 16, 41, 44, 47, 50] K 1 47 [some (.ref 43), some (.int a1), some (.int a2), some (.int a3)] [.int s0, .int s1] (xS I L z) b =
  K 50 [some (.ref 43), some (.int a1), some (.int a2), some (.int a3)] [.int (if s1 < s0 then s0 else s1)] (xS I L z) b := rfl
set_option maxRecDepth 100000 in
theorem b_X1_mostAlike_50 {C : xC} {Q : xQ} {K : xK} {I : xI} {L : xL} {z : Bool × Bool × Nat} {b : Nat × Nat} {a1 : Int32} {a2 : Int32} {a3 : Int32} {s0 : Int32} :
  xrun k_X1_mostAlike 1 C Q [5, 12, 16, 41, 44, 47, 50] K 3 50 [some (.ref 43), some (.int a1), some (.int a2), some (.int a3)] [.int s0] (xS I L z) b =
  K 16 [some (.ref 43), some (.int a1), some (.int s0), some (.int (a3 + 1))] [] (xS I L z) b := rfl
set_option maxRecDepth 100000 in
theorem b_X1_findLikes_0 {C : xC} {Q : xQ} {K : xK} {I : xI} {L : xL} {z : Bool × Bool × Nat} {b : Nat × Nat} {a1 : Int32} :
  xrun k_X1_findLikes 0 C Q [2, 10, 22] K 2 0 [some (.ref 43), some (.int a1), none, none] [] (xS I L z) b =
  K 2 [some (.ref 43), some (.int a1), some (.int 0), none] [] (xS I L z) b := rfl
set_option maxRecDepth 100000 in
theorem b_X1_findLikes_2 {C : xC} {Q : xQ} {K : xK} {I : xI} {L : xL} {z : Bool × Bool × Nat} {b : Nat × Nat} {a1 : Int32} {a2 : Int32} :
  xrun k_X1_findLikes 0 C Q [2, 10, 22] K 5 2 [some (.ref 43), some (.int a1), some (.int a2), none] [] (xS I L z) b =
  (if a2 < 6 then K 10 [some (.ref 43), some (.int a1), some (.int a2), some (.int 0)] [] (xS I L z) b else Q none (xS I L z)) := rfl
set_option maxRecDepth 100000 in
theorem b_X1_findLikes_10 {C : xC} {Q : xQ} {K : xK} {I : xI} {L : xL} {z : Bool × Bool × Nat} {b : Nat × Nat} {a1 : Int32} {a2 : Int32} {a3 : Int32} :
  xrun k_X1_findLikes 0 C Q [2, 10, 22] K 10 10 [some (.ref 43), some (.int a1), some (.int a2), some (.int a3)] [] (xS I L z) b =
  (if a3 < a2 then C 25 [.ref 43, .int a2, .int a3, .int a1] (xS I L z) (fun r τ => K 22 [some (.ref 43), some (.int a1), some (.int a2), some (.int a3)] (r.toList ++ []) τ b) else (if xin a2 (6) then K 2 [some (.ref 43), some (.int a1), some (.int (a2 + 1)), some (.int a3)] [] (xS (xw I 48 (Int32.toNatClampNeg a2) a3) L z) b else False)) := rfl
set_option maxRecDepth 100000 in
theorem b_X1_findLikes_22 {C : xC} {Q : xQ} {K : xK} {I : xI} {L : xL} {z : Bool × Bool × Nat} {b : Nat × Nat} {a1 : Int32} {a2 : Int32} {a3 : Int32} {s0 : Int32} :
  xrun k_X1_findLikes 0 C Q [2, 10, 22] K 8 22 [some (.ref 43), some (.int a1), some (.int a2), some (.int a3)] [.int s0] (xS I L z) b =
  (if s0 = 0 then K 10 [some (.ref 43), some (.int a1), some (.int a2), some (.int (a3 + 1))] [] (xS I L z) b else (if xin a2 (6) then K 2 [some (.ref 43), some (.int a1), some (.int (a2 + 1)), some (.int a3)] [] (xS (xw I 48 (Int32.toNatClampNeg a2) a3) L z) b else False)) := rfl
set_option maxRecDepth 100000 in
theorem b_X1_areAlike_0 {C : xC} {Q : xQ} {K : xK} {I : xI} {L : xL} {z : Bool × Bool × Nat} {b : Nat × Nat} {a1 : Int32} {a2 : Int32} {a3 : Int32} :
  xrun k_X1_areAlike 2 C Q [3, 29, 39] K 2 0 [some (.ref 43), some (.int a1), some (.int a2), some (.int a3), none] [] (xS I L z) b =
  K 3 [some (.ref 43), some (.int a1), some (.int a2), some (.int a3), some (.int 0)] [] (xS I L z) b := rfl
set_option maxRecDepth 100000 in
theorem b_X1_areAlike_3 {C : xC} {Q : xQ} {K : xK} {I : xI} {L : xL} {z : Bool × Bool × Nat} {b : Nat × Nat} {a1 : Int32} {a2 : Int32} {a3 : Int32} {a4 : Int32} :
  xrun k_X1_areAlike 2 C Q [3, 29, 39] K 15 3 [some (.ref 43), some (.int a1), some (.int a2), some (.int a3), some (.int a4)] [] (xS I L z) b =
  (if a4 < 4 then (if ((a3 >>> (a4 &&& 31)) &&& 1) = 1 then C 96 [.ref 10, .int a4, .int a1] (xS I L z) (fun r τ => K 29 [some (.ref 43), some (.int a1), some (.int a2), some (.int a3), some (.int a4)] (r.toList ++ []) τ b) else K 3 [some (.ref 43), some (.int a1), some (.int a2), some (.int a3), some (.int (a4 + 1))] [] (xS I L z) b) else Q (some (.int 1)) (xS I L z)) := rfl
set_option maxRecDepth 100000 in
theorem b_X1_areAlike_29 {C : xC} {Q : xQ} {K : xK} {I : xI} {L : xL} {z : Bool × Bool × Nat} {b : Nat × Nat} {a1 : Int32} {a2 : Int32} {a3 : Int32} {a4 : Int32} {s0 : Int32} :
  xrun k_X1_areAlike 2 C Q [3, 29, 39] K 5 29 [some (.ref 43), some (.int a1), some (.int a2), some (.int a3), some (.int a4)] [.int s0] (xS I L z) b =
  C 96 [.ref 10, .int a4, .int a2] (xS I L z) (fun r τ => K 39 [some (.ref 43), some (.int a1), some (.int a2), some (.int a3), some (.int a4)] (r.toList ++ [.int s0]) τ b) := rfl
set_option maxRecDepth 100000 in
theorem b_X1_areAlike_39 {C : xC} {Q : xQ} {K : xK} {I : xI} {L : xL} {z : Bool × Bool × Nat} {b : Nat × Nat} {a1 : Int32} {a2 : Int32} {a3 : Int32} {a4 : Int32} {s1 : Int32} {s0 : Int32} :
  xrun k_X1_areAlike 2 C Q [3, 29, 39] K 3 39 [some (.ref 43), some (.int a1), some (.int a2), some (.int a3), some (.int a4)] [.int s0, .int s1] (xS I L z) b =
  (if s1 = s0 then K 3 [some (.ref 43), some (.int a1), some (.int a2), some (.int a3), some (.int (a4 + 1))] [] (xS I L z) b else Q (some (.int 0)) (xS I L z)) := rfl
set_option maxRecDepth 100000 in
theorem b_X1_likeOf_0 {C : xC} {Q : xQ} {K : xK} {I : xI} {L : xL} {z : Bool × Bool × Nat} {b : Nat × Nat} {a1 : Int32} :
  xrun k_X1_likeOf 1 C Q [4, 20, 44] K 4 0 [some (.ref 43), some (.int a1), none, none, none] [] (xS I L z) b =
  K 4 [some (.ref 43), some (.int a1), some (.int 0), some (.int 0), none] [] (xS I L z) b := rfl
set_option maxRecDepth 100000 in
theorem b_X1_likeOf_4 {C : xC} {Q : xQ} {K : xK} {I : xI} {L : xL} {z : Bool × Bool × Nat} {b : Nat × Nat} {a1 : Int32} {a2 : Int32} {a3 : Int32} :
  xrun k_X1_likeOf 1 C Q [4, 20, 44] K 8 4 [some (.ref 43), some (.int a1), some (.int a2), some (.int a3), none] [] (xS I L z) b =
  (if a3 < (I 10 0) then C 111 [.int a1, .int a3] (xS I L z) (fun r τ => K 20 [some (.ref 43), some (.int a1), some (.int a2), some (.int a3), none] (r.toList ++ []) τ b) else Q (some (.int a2)) (xS I L z)) := rfl
set_option maxRecDepth 100000 in
theorem b_X1_likeOf_20 {C : xC} {Q : xQ} {K : xK} {I : xI} {L : xL} {z : Bool × Bool × Nat} {b : Nat × Nat} {a1 : Int32} {a2 : Int32} {a3 : Int32} {s0 : Int32} :
  xrun k_X1_likeOf 1 C Q [4, 20, 44] K 13 20 [some (.ref 43), some (.int a1), some (.int a2), some (.int a3), none] [.int s0] (xS I L z) b =
  (if s0 < 6 then (if xin s0 (6) then C 112 [.int (I 48 (Int32.toNatClampNeg s0)), .int a3] (xS I L z) (fun r τ => K 44 [some (.ref 43), some (.int a1), some (.int a2), some (.int a3), some (.int s0)] (r.toList ++ [.int a2]) τ b) else False) else K 4 [some (.ref 43), some (.int a1), some (.int a2), some (.int (a3 + 1)), some (.int s0)] [] (xS I L z) b) := rfl
set_option maxRecDepth 100000 in
theorem b_X1_likeOf_44 {C : xC} {Q : xQ} {K : xK} {I : xI} {L : xL} {z : Bool × Bool × Nat} {b : Nat × Nat} {a1 : Int32} {a2 : Int32} {a3 : Int32} {a4 : Int32} {s1 : Int32} {s0 : Int32} :
  xrun k_X1_likeOf 1 C Q [4, 20, 44] K 4 44 [some (.ref 43), some (.int a1), some (.int a2), some (.int a3), some (.int a4)] [.int s0, .int s1] (xS I L z) b =
  K 4 [some (.ref 43), some (.int a1), some (.int (s1 ||| s0)), some (.int (a3 + 1)), some (.int a4)] [] (xS I L z) b := rfl
set_option maxRecDepth 100000 in
theorem b_X1_fewestOf_0 {C : xC} {Q : xQ} {K : xK} {I : xI} {L : xL} {z : Bool × Bool × Nat} {b : Nat × Nat} {a1 : Int32} :
  xrun k_X1_fewestOf 1 C Q [5, 15, 29, 40] K 3 0 [some (.ref 43), some (.int a1), none, none] [] (xS I L z) b =
  C 28 [.ref 43, .int a1] (xS I L z) (fun r τ => K 5 [some (.ref 43), some (.int a1), none, none] (r.toList ++ []) τ b) := rfl
set_option maxRecDepth 100000 in
theorem b_X1_fewestOf_5 {C : xC} {Q : xQ} {K : xK} {I : xI} {L : xL} {z : Bool × Bool × Nat} {b : Nat × Nat} {a1 : Int32} {s0 : Int32} :
  xrun k_X1_fewestOf 1 C Q [5, 15, 29, 40] K 4 5 [some (.ref 43), some (.int a1), none, none] [.int s0] (xS I L z) b =
  (if s0 = 0 then Q (some (.int (-1 : Int32))) (xS I L z) else C 29 [.ref 43, .int a1] (xS I L z) (fun r τ => K 15 [some (.ref 43), some (.int a1), none, none] (r.toList ++ []) τ b)) := rfl
set_option maxRecDepth 100000 in
theorem b_X1_fewestOf_15 {C : xC} {Q : xQ} {K : xK} {I : xI} {L : xL} {z : Bool × Bool × Nat} {b : Nat × Nat} {a1 : Int32} :
  xrun k_X1_fewestOf 1 C Q [5, 15, 29, 40] K 10 15 [some (.ref 43), some (.int a1), none, none] [] (xS I L z) b =
  K 29 [some (.ref 43), some (.int a1), some (.int ((1 <<< ((I 37 1) &&& 31)) - 1)), some (.int 0)] [] (xS I L z) b := rfl
set_option maxRecDepth 100000 in
theorem b_X1_fewestOf_29 {C : xC} {Q : xQ} {K : xK} {I : xI} {L : xL} {z : Bool × Bool × Nat} {b : Nat × Nat} {a1 : Int32} {a2 : Int32} {a3 : Int32} :
  xrun k_X1_fewestOf 1 C Q [5, 15, 29, 40] K 7 29 [some (.ref 43), some (.int a1), some (.int a2), some (.int a3)] [] (xS I L z) b =
  (if 4 < a3 then Q (some (.int (-1 : Int32))) (xS I L z) else C 31 [.ref 43, .int a2, .int a3] (xS I L z) (fun r τ => K 40 [some (.ref 43), some (.int a1), some (.int a2), some (.int a3)] (r.toList ++ []) τ b)) := rfl
set_option maxRecDepth 100000 in
theorem b_X1_fewestOf_40 {C : xC} {Q : xQ} {K : xK} {I : xI} {L : xL} {z : Bool × Bool × Nat} {b : Nat × Nat} {a1 : Int32} {a2 : Int32} {a3 : Int32} {s0 : Int32} :
  xrun k_X1_fewestOf 1 C Q [5, 15, 29, 40] K 3 40 [some (.ref 43), some (.int a1), some (.int a2), some (.int a3)] [.int s0] (xS I L z) b =
  (if s0 = 0 then K 29 [some (.ref 43), some (.int a1), some (.int a2), some (.int (a3 + 1))] [] (xS I L z) b else Q (some (.int a3)) (xS I L z)) := rfl
set_option maxRecDepth 100000 in
theorem b_X1_canEverTell_0 {C : xC} {Q : xQ} {K : xK} {I : xI} {L : xL} {z : Bool × Bool × Nat} {b : Nat × Nat} {a1 : Int32} :
  xrun k_X1_canEverTell 2 C Q [5, 12, 14, 38, 41, 44] K 3 0 [some (.ref 43), some (.int a1), none] [] (xS I L z) b =
  C 24 [.ref 43, .int a1] (xS I L z) (fun r τ => K 5 [some (.ref 43), some (.int a1), none] (r.toList ++ []) τ b) := rfl
set_option maxRecDepth 100000 in
theorem b_X1_canEverTell_5 {C : xC} {Q : xQ} {K : xK} {I : xI} {L : xL} {z : Bool × Bool × Nat} {b : Nat × Nat} {a1 : Int32} :
  xrun k_X1_canEverTell 2 C Q [5, 12, 14, 38, 41, 44] K 3 5 [some (.ref 43), some (.int a1), none] [] (xS I L z) b =
  C 53 [.ref 44] (xS I L z) (fun r τ => K 12 [some (.ref 43), some (.int a1), none] (r.toList ++ []) τ b) := rfl
set_option maxRecDepth 100000 in
theorem b_X1_canEverTell_12 {C : xC} {Q : xQ} {K : xK} {I : xI} {L : xL} {z : Bool × Bool × Nat} {b : Nat × Nat} {a1 : Int32} :
  xrun k_X1_canEverTell 2 C Q [5, 12, 14, 38, 41, 44] K 2 12 [some (.ref 43), some (.int a1), none] [] (xS I L z) b =
  K 14 [some (.ref 43), some (.int a1), some (.int 0)] [] (xS I L z) b := rfl
set_option maxRecDepth 100000 in
theorem b_X1_canEverTell_14 {C : xC} {Q : xQ} {K : xK} {I : xI} {L : xL} {z : Bool × Bool × Nat} {b : Nat × Nat} {a1 : Int32} {a2 : Int32} :
  xrun k_X1_canEverTell 2 C Q [5, 12, 14, 38, 41, 44] K 12 14 [some (.ref 43), some (.int a1), some (.int a2)] [] (xS I L z) b =
  (if a2 < (I 37 1) then C 123 [.ref 37, .int a2] (xS I L z) (fun r τ => K 38 [some (.ref 43), some (.int a1), some (.int a2)] (r.toList ++ [.ref 43, .ref 44]) τ b) else Q (some (.int 1)) (xS I L z)) := rfl
set_option maxRecDepth 100000 in
theorem b_X1_canEverTell_38 {C : xC} {Q : xQ} {K : xK} {I : xI} {L : xL} {z : Bool × Bool × Nat} {b : Nat × Nat} {a1 : Int32} {a2 : Int32} {s0 : Int32} :
  xrun k_X1_canEverTell 2 C Q [5, 12, 14, 38, 41, 44] K 1 38 [some (.ref 43), some (.int a1), some (.int a2)] [.int s0, .ref 43, .ref 44] (xS I L z) b =
  C 26 [.ref 43, .int s0] (xS I L z) (fun r τ => K 41 [some (.ref 43), some (.int a1), some (.int a2)] (r.toList ++ [.ref 44]) τ b) := rfl
set_option maxRecDepth 100000 in
theorem b_X1_canEverTell_41 {C : xC} {Q : xQ} {K : xK} {I : xI} {L : xL} {z : Bool × Bool × Nat} {b : Nat × Nat} {a1 : Int32} {a2 : Int32} {s0 : Int32} :
  xrun k_X1_canEverTell 2 C Q [5, 12, 14, 38, 41, 44] K 1 41 [some (.ref 43), some (.int a1), some (.int a2)] [.int s0, .ref 44] (xS I L z) b =
  C 54 [.ref 44, .int s0] (xS I L z) (fun r τ => K 44 [some (.ref 43), some (.int a1), some (.int a2)] (r.toList ++ []) τ b) := rfl
set_option maxRecDepth 100000 in
theorem b_X1_canEverTell_44 {C : xC} {Q : xQ} {K : xK} {I : xI} {L : xL} {z : Bool × Bool × Nat} {b : Nat × Nat} {a1 : Int32} {a2 : Int32} {s0 : Int32} :
  xrun k_X1_canEverTell 2 C Q [5, 12, 14, 38, 41, 44] K 4 44 [some (.ref 43), some (.int a1), some (.int a2)] [.int s0] (xS I L z) b =
  (if 1 < s0 then Q (some (.int 0)) (xS I L z) else K 14 [some (.ref 43), some (.int a1), some (.int (a2 + 1))] [] (xS I L z) b) := rfl
set_option maxRecDepth 100000 in
theorem b_X1_findParts_0 {C : xC} {Q : xQ} {K : xK} {I : xI} {L : xL} {z : Bool × Bool × Nat} {b : Nat × Nat} {a1 : Int32} :
  xrun k_X1_findParts 0 C Q [24, 36, 57, 60, 78] K 14 0 [some (.ref 43), some (.int a1), none, none, none] [] (xS I L z) b =
  (if ((a1 >>> (3 &&& 31)) &&& 1) = 1 then C 302 [.ref 49, .int 0] (xS I L z) (fun r τ => K 24 [some (.ref 43), some (.int a1), some (.int 8), none, none] (r.toList ++ []) τ b) else C 302 [.ref 49, .int 0] (xS I L z) (fun r τ => K 24 [some (.ref 43), some (.int a1), some (.int a1), none, none] (r.toList ++ []) τ b)) := rfl
set_option maxRecDepth 100000 in
theorem b_X1_findParts_24 {C : xC} {Q : xQ} {K : xK} {I : xI} {L : xL} {z : Bool × Bool × Nat} {b : Nat × Nat} {a1 : Int32} {a2 : Int32} :
  xrun k_X1_findParts 0 C Q [24, 36, 57, 60, 78] K 8 24 [some (.ref 43), some (.int a1), some (.int a2), none, none] [] (xS I L z) b =
  K 36 [some (.ref 43), some (.int a1), some (.int a2), some (.int 0), none] [] (xS (xw (xw I 43 5 0) 43 6 1) L z) b := rfl
set_option maxRecDepth 100000 in
theorem b_X1_findParts_36 {C : xC} {Q : xQ} {K : xK} {I : xI} {L : xL} {z : Bool × Bool × Nat} {b : Nat × Nat} {a1 : Int32} {a2 : Int32} {a3 : Int32} :
  xrun k_X1_findParts 0 C Q [24, 36, 57, 60, 78] K 15 36 [some (.ref 43), some (.int a1), some (.int a2), some (.int a3), none] [] (xS I L z) b =
  (if a3 < 4 then (if ((a2 >>> (a3 &&& 31)) &&& 1) = 1 then C 24 [.ref 43, .int (1 <<< (a3 &&& 31))] (xS I L z) (fun r τ => K 57 [some (.ref 43), some (.int a1), some (.int a2), some (.int a3), none] (r.toList ++ []) τ b) else K 36 [some (.ref 43), some (.int a1), some (.int a2), some (.int (a3 + 1)), none] [] (xS I L z) b) else Q none (xS I L z)) := rfl
set_option maxRecDepth 100000 in
theorem b_X1_findParts_57 {C : xC} {Q : xQ} {K : xK} {I : xI} {L : xL} {z : Bool × Bool × Nat} {b : Nat × Nat} {a1 : Int32} {a2 : Int32} {a3 : Int32} :
  xrun k_X1_findParts 0 C Q [24, 36, 57, 60, 78] K 2 57 [some (.ref 43), some (.int a1), some (.int a2), some (.int a3), none] [] (xS I L z) b =
  K 60 [some (.ref 43), some (.int a1), some (.int a2), some (.int a3), some (.int 0)] [] (xS I L z) b := rfl
set_option maxRecDepth 100000 in
theorem b_X1_findParts_60 {C : xC} {Q : xQ} {K : xK} {I : xI} {L : xL} {z : Bool × Bool × Nat} {b : Nat × Nat} {a1 : Int32} {a2 : Int32} {a3 : Int32} {a4 : Int32} :
  xrun k_X1_findParts 0 C Q [24, 36, 57, 60, 78] K 8 60 [some (.ref 43), some (.int a1), some (.int a2), some (.int a3), some (.int a4)] [] (xS I L z) b =
  (if a4 < (I 10 0) then C 30 [.ref 43, .int a4] (xS I L z) (fun r τ => K 78 [some (.ref 43), some (.int a1), some (.int a2), some (.int a3), some (.int a4)] (r.toList ++ []) τ b) else K 36 [some (.ref 43), some (.int a1), some (.int a2), some (.int (a3 + 1)), some (.int a4)] [] (xS I L z) b) := rfl
set_option maxRecDepth 100000 in
theorem b_X1_findParts_78 {C : xC} {Q : xQ} {K : xK} {I : xI} {L : xL} {z : Bool × Bool × Nat} {b : Nat × Nat} {a1 : Int32} {a2 : Int32} {a3 : Int32} {a4 : Int32} :
  xrun k_X1_findParts 0 C Q [24, 36, 57, 60, 78] K 2 78 [some (.ref 43), some (.int a1), some (.int a2), some (.int a3), some (.int a4)] [] (xS I L z) b =
  K 60 [some (.ref 43), some (.int a1), some (.int a2), some (.int a3), some (.int (a4 + 1))] [] (xS I L z) b := rfl
set_option maxRecDepth 100000 in
theorem b_X1_findPartsAt_0 {C : xC} {Q : xQ} {K : xK} {I : xI} {L : xL} {z : Bool × Bool × Nat} {b : Nat × Nat} {a1 : Int32} :
  xrun k_X1_findPartsAt 0 C Q [13, 34, 38, 63, 121, 124] K 9 0 [some (.ref 43), some (.int a1), none, none, none, none, none] [] (xS I L z) b =
  K 13 [some (.ref 43), some (.int a1), some (.int ((I 43 5) * 6)), some (.int 0), some (.int 0), none, none] [] (xS I L z) b := rfl
set_option maxRecDepth 100000 in
theorem b_X1_findPartsAt_13 {C : xC} {Q : xQ} {K : xK} {I : xI} {L : xL} {z : Bool × Bool × Nat} {b : Nat × Nat} {a1 : Int32} {a2 : Int32} {a3 : Int32} {a4 : Int32} :
  xrun k_X1_findPartsAt 0 C Q [13, 34, 38, 63, 121, 124] K 10 13 [some (.ref 43), some (.int a1), some (.int a2), some (.int a3), some (.int a4), none, none] [] (xS I L z) b =
  (if a4 < (I 37 1) then C 123 [.ref 37, .int a4] (xS I L z) (fun r τ => K 34 [some (.ref 43), some (.int a1), some (.int a2), some (.int a3), some (.int a4), none, none] (r.toList ++ []) τ b) else C 299 [.int a3] (xS I L z) (fun r τ => K 121 [some (.ref 43), some (.int a1), some (.int a2), some (.int a3), some (.int a4), none, none] (r.toList ++ [.int (I 43 6), .ref 43]) τ b)) := rfl
set_option maxRecDepth 100000 in
theorem b_X1_findPartsAt_34 {C : xC} {Q : xQ} {K : xK} {I : xI} {L : xL} {z : Bool × Bool × Nat} {b : Nat × Nat} {a1 : Int32} {a2 : Int32} {a3 : Int32} {a4 : Int32} {s0 : Int32} :
  xrun k_X1_findPartsAt 0 C Q [13, 34, 38, 63, 121, 124] K 2 34 [some (.ref 43), some (.int a1), some (.int a2), some (.int a3), some (.int a4), none, none] [.int s0] (xS I L z) b =
  C 111 [.int s0, .int a1] (xS I L z) (fun r τ => K 38 [some (.ref 43), some (.int a1), some (.int a2), some (.int a3), some (.int a4), none, none] (r.toList ++ []) τ b) := rfl
set_option maxRecDepth 100000 in
theorem b_X1_findPartsAt_121 {C : xC} {Q : xQ} {K : xK} {I : xI} {L : xL} {z : Bool × Bool × Nat} {b : Nat × Nat} {a1 : Int32} {a2 : Int32} {a3 : Int32} {a4 : Int32} {s1 : Int32} {s0 : Int32} :
  xrun k_X1_findPartsAt 0 C Q [13, 34, 38, 63, 121, 124] K 1 121 [some (.ref 43), some (.int a1), some (.int a2), some (.int a3), some (.int a4), none, none] [.int s0, .int s1, .ref 43] (xS I L z) b =
  K 124 [some (.ref 43), some (.int a1), some (.int a2), some (.int a3), some (.int a4), none, none] [.int (if s1 < s0 then s0 else s1), .ref 43] (xS I L z) b := rfl
set_option maxRecDepth 100000 in
theorem b_X1_findPartsAt_38 {C : xC} {Q : xQ} {K : xK} {I : xI} {L : xL} {z : Bool × Bool × Nat} {b : Nat × Nat} {a1 : Int32} {a2 : Int32} {a3 : Int32} {a4 : Int32} {s0 : Int32} :
  xrun k_X1_findPartsAt 0 C Q [13, 34, 38, 63, 121, 124] K 13 38 [some (.ref 43), some (.int a1), some (.int a2), some (.int a3), some (.int a4), none, none] [.int s0] (xS I L z) b =
  (if s0 < 6 then (if xin s0 (6) then K 63 [some (.ref 43), some (.int a1), some (.int a2), some (.int a3), some (.int a4), some (.int s0), none] [.int (a2 + (I 48 (Int32.toNatClampNeg s0)))] (xS I L z) b else False) else K 63 [some (.ref 43), some (.int a1), some (.int a2), some (.int a3), some (.int a4), some (.int s0), none] [.int (-1 : Int32)] (xS I L z) b) := rfl
set_option maxRecDepth 100000 in
theorem b_X1_findPartsAt_124 {C : xC} {Q : xQ} {K : xK} {I : xI} {L : xL} {z : Bool × Bool × Nat} {b : Nat × Nat} {a1 : Int32} {a2 : Int32} {a3 : Int32} {a4 : Int32} {s0 : Int32} :
  xrun k_X1_findPartsAt 0 C Q [13, 34, 38, 63, 121, 124] K 8 124 [some (.ref 43), some (.int a1), some (.int a2), some (.int a3), some (.int a4), none, none] [.int s0, .ref 43] (xS I L z) b =
  Q none (xS (xw (xw I 43 6 s0) 43 5 (((xw I 43 6 s0) 43 5) + 1)) L z) := rfl
set_option maxRecDepth 100000 in
theorem b_X1_findPartsAt_63 {C : xC} {Q : xQ} {K : xK} {I : xI} {L : xL} {z : Bool × Bool × Nat} {b : Nat × Nat} {a1 : Int32} {a2 : Int32} {a3 : Int32} {a4 : Int32} {a5 : Int32} {s0 : Int32} :
  xrun k_X1_findPartsAt 0 C Q [13, 34, 38, 63, 121, 124] K 29 63 [some (.ref 43), some (.int a1), some (.int a2), some (.int a3), some (.int a4), some (.int a5), none] [.int s0] (xS I L z) b =
  (if s0 < 0 then K 13 [some (.ref 43), some (.int a1), some (.int a2), some (.int a3), some (.int (a4 + 1)), some (.int a5), some (.int s0)] [] (xS I L z) b else (if s0 < 144 then (if xin s0 (144) then (if xin s0 (144) then (if xin a5 (6) then K 13 [some (.ref 43), some (.int a1), some (.int a2), some (.int (a3 ||| ((1 : Int32) <<< (((xw I 49 (Int32.toNatClampNeg s0) ((I 49 (Int32.toNatClampNeg s0)) ||| ((1 : Int32) <<< (a4 &&& 31)))) 48 (Int32.toNatClampNeg a5)) &&& 31)))), some (.int (a4 + 1)), some (.int a5), some (.int s0)] [] (xS (xw I 49 (Int32.toNatClampNeg s0) ((I 49 (Int32.toNatClampNeg s0)) ||| ((1 : Int32) <<< (a4 &&& 31)))) L z) b else False) else False) else False) else K 13 [some (.ref 43), some (.int a1), some (.int a2), some (.int a3), some (.int (a4 + 1)), some (.int a5), some (.int s0)] [] (xS I L z) b)) := rfl
set_option maxRecDepth 100000 in
theorem b_X1_canTell_0 {C : xC} {Q : xQ} {K : xK} {I : xI} {L : xL} {z : Bool × Bool × Nat} {b : Nat × Nat} {a1 : Int32} {a2 : Int32} :
  xrun k_X1_canTell 2 C Q [18, 23, 30, 45] K 10 0 [some (.ref 43), some (.int a1), some (.int a2), none] [] (xS I L z) b =
  (if (a1 &&& (a1 - 1)) = 0 then Q (some (.int 1)) (xS I L z) else (if 0 < a2 then C 299 [.int a1] (xS I L z) (fun r τ => K 18 [some (.ref 43), some (.int a1), some (.int a2), none] (r.toList ++ []) τ b) else Q (some (.int 0)) (xS I L z))) := rfl
set_option maxRecDepth 100000 in
theorem b_X1_canTell_18 {C : xC} {Q : xQ} {K : xK} {I : xI} {L : xL} {z : Bool × Bool × Nat} {b : Nat × Nat} {a1 : Int32} {a2 : Int32} {s0 : Int32} :
  xrun k_X1_canTell 2 C Q [18, 23, 30, 45] K 3 18 [some (.ref 43), some (.int a1), some (.int a2), none] [.int s0] (xS I L z) b =
  C 32 [.ref 43, .int a2] (xS I L z) (fun r τ => K 23 [some (.ref 43), some (.int a1), some (.int a2), none] (r.toList ++ [.int s0]) τ b) := rfl
set_option maxRecDepth 100000 in
theorem b_X1_canTell_23 {C : xC} {Q : xQ} {K : xK} {I : xI} {L : xL} {z : Bool × Bool × Nat} {b : Nat × Nat} {a1 : Int32} {a2 : Int32} {s1 : Int32} {s0 : Int32} :
  xrun k_X1_canTell 2 C Q [18, 23, 30, 45] K 3 23 [some (.ref 43), some (.int a1), some (.int a2), none] [.int s0, .int s1] (xS I L z) b =
  (if s0 < s1 then Q (some (.int 0)) (xS I L z) else K 30 [some (.ref 43), some (.int a1), some (.int a2), some (.int 0)] [] (xS I L z) b) := rfl
set_option maxRecDepth 100000 in
theorem b_X1_canTell_30 {C : xC} {Q : xQ} {K : xK} {I : xI} {L : xL} {z : Bool × Bool × Nat} {b : Nat × Nat} {a1 : Int32} {a2 : Int32} {a3 : Int32} :
  xrun k_X1_canTell 2 C Q [18, 23, 30, 45] K 9 30 [some (.ref 43), some (.int a1), some (.int a2), some (.int a3)] [] (xS I L z) b =
  (if a3 < (I 43 5) then C 33 [.ref 43, .int a3, .int a1, .int a2] (xS I L z) (fun r τ => K 45 [some (.ref 43), some (.int a1), some (.int a2), some (.int a3)] (r.toList ++ []) τ b) else Q (some (.int 0)) (xS I L z)) := rfl
set_option maxRecDepth 100000 in
theorem b_X1_canTell_45 {C : xC} {Q : xQ} {K : xK} {I : xI} {L : xL} {z : Bool × Bool × Nat} {b : Nat × Nat} {a1 : Int32} {a2 : Int32} {a3 : Int32} {s0 : Int32} :
  xrun k_X1_canTell 2 C Q [18, 23, 30, 45] K 3 45 [some (.ref 43), some (.int a1), some (.int a2), some (.int a3)] [.int s0] (xS I L z) b =
  (if s0 = 0 then K 30 [some (.ref 43), some (.int a1), some (.int a2), some (.int (a3 + 1))] [] (xS I L z) b else Q (some (.int 1)) (xS I L z)) := rfl
set_option maxRecDepth 100000 in
theorem b_X1_mostTold_0 {C : xC} {Q : xQ} {K : xK} {I : xI} {L : xL} {z : Bool × Bool × Nat} {b : Nat × Nat} {a1 : Int32} :
  xrun k_X1_mostTold 1 C Q [4] K 4 0 [some (.ref 43), some (.int a1), none, none] [] (xS I L z) b =
  K 4 [some (.ref 43), some (.int a1), some (.int 1), some (.int 0)] [] (xS I L z) b := rfl
set_option maxRecDepth 100000 in
theorem b_X1_mostTold_4 {C : xC} {Q : xQ} {K : xK} {I : xI} {L : xL} {z : Bool × Bool × Nat} {b : Nat × Nat} {a1 : Int32} {a2 : Int32} {a3 : Int32} :
  xrun k_X1_mostTold 1 C Q [4] K 13 4 [some (.ref 43), some (.int a1), some (.int a2), some (.int a3)] [] (xS I L z) b =
  (if a3 < a1 then (if a3 < 4 then K 4 [some (.ref 43), some (.int a1), some (.int (a2 * (I 43 6))), some (.int (a3 + 1))] [] (xS I L z) b else Q (some (.int a2)) (xS I L z)) else Q (some (.int a2)) (xS I L z)) := rfl
set_option maxRecDepth 100000 in
theorem b_X1_canTellBy_0 {C : xC} {Q : xQ} {K : xK} {I : xI} {L : xL} {z : Bool × Bool × Nat} {b : Nat × Nat} {a1 : Int32} {a2 : Int32} {a3 : Int32} :
  xrun k_X1_canTellBy 2 C Q [30, 66] K 15 0 [some (.ref 43), some (.int a1), some (.int a2), some (.int a3), none, none, none] [] (xS I L z) b =
  (if (a1 * 6) < 0 then Q (some (.int 0)) (xS I L z) else (if 144 < ((a1 * 6) + 6) then Q (some (.int 0)) (xS I L z) else K 30 [some (.ref 43), some (.int a1), some (.int a2), some (.int a3), some (.int (a1 * 6)), some (.int (a1 * 6)), none] [] (xS I L z) b)) := rfl
set_option maxRecDepth 100000 in
theorem b_X1_canTellBy_30 {C : xC} {Q : xQ} {K : xK} {I : xI} {L : xL} {z : Bool × Bool × Nat} {b : Nat × Nat} {a1 : Int32} {a2 : Int32} {a3 : Int32} {a4 : Int32} {a5 : Int32} :
  xrun k_X1_canTellBy 2 C Q [30, 66] K 21 30 [some (.ref 43), some (.int a1), some (.int a2), some (.int a3), some (.int a4), some (.int a5), none] [] (xS I L z) b =
  (if a5 < (a4 + 6) then (if xin a5 (144) then (if (a2 &&& (I 49 (Int32.toNatClampNeg a5))) = a2 then Q (some (.int 0)) (xS I L z) else C 31 [.ref 43, .int (a2 &&& (I 49 (Int32.toNatClampNeg a5))), .int (a3 - 1)] (xS I L z) (fun r τ => K 66 [some (.ref 43), some (.int a1), some (.int a2), some (.int a3), some (.int a4), some (.int a5), some (.int (a2 &&& (I 49 (Int32.toNatClampNeg a5))))] (r.toList ++ []) τ b)) else False) else Q (some (.int 1)) (xS I L z)) := rfl
set_option maxRecDepth 100000 in
theorem b_X1_canTellBy_66 {C : xC} {Q : xQ} {K : xK} {I : xI} {L : xL} {z : Bool × Bool × Nat} {b : Nat × Nat} {a1 : Int32} {a2 : Int32} {a3 : Int32} {a4 : Int32} {a5 : Int32} {a6 : Int32} {s0 : Int32} :
  xrun k_X1_canTellBy 2 C Q [30, 66] K 3 66 [some (.ref 43), some (.int a1), some (.int a2), some (.int a3), some (.int a4), some (.int a5), some (.int a6)] [.int s0] (xS I L z) b =
  (if s0 = 0 then Q (some (.int 0)) (xS I L z) else K 30 [some (.ref 43), some (.int a1), some (.int a2), some (.int a3), some (.int a4), some (.int (a5 + 1)), some (.int a6)] [] (xS I L z) b) := rfl
set_option maxRecDepth 100000 in
theorem b_X2_putRow_0 {C : xC} {Q : xQ} {K : xK} {I : xI} {L : xL} {z : Bool × Bool × Nat} {b : Nat × Nat} {a1 : Int32} {a2 : Int32} {a3 : Int32} :
  xrun k_X2_putRow 0 C Q [4, 32] K 2 0 [some (.ref 57), some (.int a1), some (.int a2), some (.int a3), none, none] [] (xS I L z) b =
  C 35 [.int a1] (xS I L z) (fun r τ => K 4 [some (.ref 57), some (.int a1), some (.int a2), some (.int a3), none, none] (r.toList ++ []) τ b) := rfl
set_option maxRecDepth 100000 in
theorem b_X2_putRow_4 {C : xC} {Q : xQ} {K : xK} {I : xI} {L : xL} {z : Bool × Bool × Nat} {b : Nat × Nat} {a1 : Int32} {a2 : Int32} {a3 : Int32} {s0 : Int32} :
  xrun k_X2_putRow 0 C Q [4, 32] K 17 4 [some (.ref 57), some (.int a1), some (.int a2), some (.int a3), none, none] [.int s0] (xS I L z) b =
  (if s0 = 0 then Q none (xS I L z) else (if xin a1 (8) then (if xin a1 (8) then K 32 [some (.ref 57), some (.int a1), some (.int a2), some (.int a3), some (.int (a1 * 40)), some (.int (a1 * 40))] [] (xS (xw (xw I 58 (Int32.toNatClampNeg a1) a2) 59 (Int32.toNatClampNeg a1) a3) L z) b else False) else False)) := rfl
set_option maxRecDepth 100000 in
theorem b_X2_putRow_32 {C : xC} {Q : xQ} {K : xK} {I : xI} {L : xL} {z : Bool × Bool × Nat} {b : Nat × Nat} {a1 : Int32} {a2 : Int32} {a3 : Int32} {a4 : Int32} {a5 : Int32} :
  xrun k_X2_putRow 0 C Q [4, 32] K 12 32 [some (.ref 57), some (.int a1), some (.int a2), some (.int a3), some (.int a4), some (.int a5)] [] (xS I L z) b =
  (if a5 < (a4 + 40) then (if xin a5 (320) then K 32 [some (.ref 57), some (.int a1), some (.int a2), some (.int a3), some (.int a4), some (.int (a5 + 1))] [] (xS I (xwl L 60 (Int32.toNatClampNeg a5) (Int64.ofNat 0)) z) b else False) else Q none (xS I L z)) := rfl
set_option maxRecDepth 100000 in
theorem b_X2_dropTellersFrom_0 {C : xC} {Q : xQ} {K : xK} {I : xI} {L : xL} {z : Bool × Bool × Nat} {b : Nat × Nat} {a1 : Int32} :
  xrun k_X2_dropTellersFrom 0 C Q [2] K 2 0 [some (.ref 57), some (.int a1), none] [] (xS I L z) b =
  K 2 [some (.ref 57), some (.int a1), some (.int 0)] [] (xS I L z) b := rfl
set_option maxRecDepth 100000 in
theorem b_X2_dropTellersFrom_2 {C : xC} {Q : xQ} {K : xK} {I : xI} {L : xL} {z : Bool × Bool × Nat} {b : Nat × Nat} {a1 : Int32} {a2 : Int32} :
  xrun k_X2_dropTellersFrom 0 C Q [2] K 18 2 [some (.ref 57), some (.int a1), some (.int a2)] [] (xS I L z) b =
  (if a2 < 8 then (if xin a2 (8) then (if (I 58 (Int32.toNatClampNeg a2)) < (10 + a1) then K 2 [some (.ref 57), some (.int a1), some (.int (a2 + 1))] [] (xS I L z) b else (if xin a2 (8) then K 2 [some (.ref 57), some (.int a1), some (.int (a2 + 1))] [] (xS (xw I 58 (Int32.toNatClampNeg a2) (-1 : Int32)) L z) b else False)) else False) else Q none (xS I L z)) := rfl
set_option maxRecDepth 100000 in
theorem b_X2_howManyHold_0 {C : xC} {Q : xQ} {K : xK} {I : xI} {L : xL} {z : Bool × Bool × Nat} {b : Nat × Nat}  :
  xrun k_X2_howManyHold 1 C Q [4] K 4 0 [some (.ref 57), none, none] [] (xS I L z) b =
  K 4 [some (.ref 57), some (.int 0), some (.int 0)] [] (xS I L z) b := rfl
set_option maxRecDepth 100000 in
theorem b_X2_howManyHold_4 {C : xC} {Q : xQ} {K : xK} {I : xI} {L : xL} {z : Bool × Bool × Nat} {b : Nat × Nat} {a1 : Int32} {a2 : Int32} :
  xrun k_X2_howManyHold 1 C Q [4] K 12 4 [some (.ref 57), some (.int a1), some (.int a2)] [] (xS I L z) b =
  (if a2 < 8 then (if xin a2 (8) then (if (I 58 (Int32.toNatClampNeg a2)) = (-1 : Int32) then K 4 [some (.ref 57), some (.int a1), some (.int (a2 + 1))] [] (xS I L z) b else K 4 [some (.ref 57), some (.int (a1 + 1)), some (.int (a2 + 1))] [] (xS I L z) b) else False) else Q (some (.int a1)) (xS I L z)) := rfl
set_option maxRecDepth 100000 in
theorem b_X3_add_0 {C : xC} {Q : xQ} {K : xK} {I : xI} {L : xL} {z : Bool × Bool × Nat} {b : Nat × Nat} {a1 : Int32} :
  xrun k_X3_add 1 C Q [10, 54] K 8 0 [some (.ref 44), some (.int a1), none, none] [] (xS I L z) b =
  K 10 [some (.ref 44), some (.int a1), some (.int ((Int32.toUInt32 (a1 * (-1640531535 : Int32)) >>> (Int32.toUInt32 22 &&& Int32.toUInt32 31)).toInt32)), some (.int 0)] [] (xS I L z) b := rfl
set_option maxRecDepth 100000 in
theorem b_X3_add_10 {C : xC} {Q : xQ} {K : xK} {I : xI} {L : xL} {z : Bool × Bool × Nat} {b : Nat × Nat} {a1 : Int32} {a2 : Int32} {a3 : Int32} :
  xrun k_X3_add 1 C Q [10, 54] K 26 10 [some (.ref 44), some (.int a1), some (.int a2), some (.int a3)] [] (xS I L z) b =
  (if a3 < 1024 then (if xin a2 (1024) then (if (I 47 (Int32.toNatClampNeg a2)) = (I 44 3) then K 54 [some (.ref 44), some (.int a1), some (.int a2), some (.int a3)] [] (xS I L z) b else (if xin a2 (1024) then (if xin a2 (1024) then (if xin a2 (1024) then K 54 [some (.ref 44), some (.int a1), some (.int a2), some (.int a3)] [] (xS (xw (xw (xw I 47 (Int32.toNatClampNeg a2) (I 44 3)) 45 (Int32.toNatClampNeg a2) a1) 46 (Int32.toNatClampNeg a2) 0) L z) b else False) else False) else False)) else False) else Q (some (.int 0)) (xS I L z)) := rfl
set_option maxRecDepth 100000 in
theorem b_X3_add_54 {C : xC} {Q : xQ} {K : xK} {I : xI} {L : xL} {z : Bool × Bool × Nat} {b : Nat × Nat} {a1 : Int32} {a2 : Int32} {a3 : Int32} :
  xrun k_X3_add 1 C Q [10, 54] K 19 54 [some (.ref 44), some (.int a1), some (.int a2), some (.int a3)] [] (xS I L z) b =
  (if xin a2 (1024) then (if (I 45 (Int32.toNatClampNeg a2)) = a1 then (if xin a2 (1024) then (if xin a2 (1024) then (if xin a2 (1024) then Q (some (.int ((xw I 46 (Int32.toNatClampNeg a2) ((I 46 (Int32.toNatClampNeg a2)) + 1)) 46 (Int32.toNatClampNeg a2)))) (xS (xw I 46 (Int32.toNatClampNeg a2) ((I 46 (Int32.toNatClampNeg a2)) + 1)) L z) else False) else False) else False) else K 10 [some (.ref 44), some (.int a1), some (.int ((a2 + 1) &&& 1023)), some (.int (a3 + 1))] [] (xS I L z) b) else False) := rfl
set_option maxRecDepth 100000 in
theorem b_X4_readStatements_0 {C : xC} {Q : xQ} {K : xK} {I : xI} {L : xL} {z : Bool × Bool × Nat} {b : Nat × Nat}  :
  xrun k_X4_readStatements 1 C Q [12, 23, 27, 36] K 8 0 [some (.ref 61), none] [] (xS I L z) b =
  K 12 [some (.ref 61), some (.int 1)] [] (xS (xw (xw I 61 6 0) 61 1 0) L z) b := rfl
set_option maxRecDepth 100000 in
theorem b_X4_readStatements_12 {C : xC} {Q : xQ} {K : xK} {I : xI} {L : xL} {z : Bool × Bool × Nat} {b : Nat × Nat} {a1 : Int32} :
  xrun k_X4_readStatements 1 C Q [12, 23, 27, 36] K 5 12 [some (.ref 61), some (.int a1)] [] (xS I L z) b =
  (if 250 < a1 then Q (some (.int (-1 : Int32))) (xS I L z) else C 61 [.ref 61] (xS I L z) (fun r τ => K 23 [some (.ref 61), some (.int a1)] (r.toList ++ []) τ b)) := rfl
set_option maxRecDepth 100000 in
theorem b_X4_readStatements_23 {C : xC} {Q : xQ} {K : xK} {I : xI} {L : xL} {z : Bool × Bool × Nat} {b : Nat × Nat} {a1 : Int32} :
  xrun k_X4_readStatements 1 C Q [12, 23, 27, 36] K 2 23 [some (.ref 61), some (.int a1)] [] (xS I L z) b =
  C 64 [.ref 61] (xS I L z) (fun r τ => K 27 [some (.ref 61), some (.int a1)] (r.toList ++ []) τ b) := rfl
set_option maxRecDepth 100000 in
theorem b_X4_readStatements_27 {C : xC} {Q : xQ} {K : xK} {I : xI} {L : xL} {z : Bool × Bool × Nat} {b : Nat × Nat} {a1 : Int32} {s0 : Int32} :
  xrun k_X4_readStatements 1 C Q [12, 23, 27, 36] K 3 27 [some (.ref 61), some (.int a1)] [.int s0] (xS I L z) b =
  (if s0 = 0 then Q (some (.int (-1 : Int32))) (xS I L z) else C 61 [.ref 61] (xS I L z) (fun r τ => K 36 [some (.ref 61), some (.int a1)] (r.toList ++ []) τ b)) := rfl
set_option maxRecDepth 100000 in
theorem b_X4_readStatements_36 {C : xC} {Q : xQ} {K : xK} {I : xI} {L : xL} {z : Bool × Bool × Nat} {b : Nat × Nat} {a1 : Int32} :
  xrun k_X4_readStatements 1 C Q [12, 23, 27, 36] K 13 36 [some (.ref 61), some (.int a1)] [] (xS I L z) b =
  (if (I 61 7) = 0 then Q (some (.int a1)) (xS I L z) else (if (I 61 7) = 3 then K 12 [some (.ref 61), some (.int (a1 + 1))] [] (xS I L z) b else Q (some (.int (-1 : Int32))) (xS (xw I 61 1 (I 61 8)) L z))) := rfl
set_option maxRecDepth 100000 in
theorem b_X4_readToken_0 {C : xC} {Q : xQ} {K : xK} {I : xI} {L : xL} {z : Bool × Bool × Nat} {b : Nat × Nat}  :
  xrun k_X4_readToken 0 C Q [0, 19, 53, 71, 79, 98, 101, 121, 134, 153, 156, 188] K 13 0 [some (.ref 61), none] [] (xS I L z) b =
  (if (I 61 6) < (I 61 0) then C 58 [.ref 61, .int (I 61 6)] (xS I L z) (fun r τ => K 19 [some (.ref 61), none] (r.toList ++ []) τ b) else C 58 [.ref 61, .int ((xw I 61 8 (I 61 6)) 61 6)] (xS (xw I 61 8 (I 61 6)) L z) (fun r τ => K 53 [some (.ref 61), none] (r.toList ++ []) τ b)) := rfl
set_option maxRecDepth 100000 in
theorem b_X4_readToken_19 {C : xC} {Q : xQ} {K : xK} {I : xI} {L : xL} {z : Bool × Bool × Nat} {b : Nat × Nat} {s0 : Int32} :
  xrun k_X4_readToken 0 C Q [0, 19, 53, 71, 79, 98, 101, 121, 134, 153, 156, 188] K 10 19 [some (.ref 61), none] [.int s0] (xS I L z) b =
  (if s0 = 32 then K 0 [some (.ref 61), none] [] (xS (xw I 61 6 ((I 61 6) + 1)) L z) b else C 58 [.ref 61, .int ((xw I 61 8 (I 61 6)) 61 6)] (xS (xw I 61 8 (I 61 6)) L z) (fun r τ => K 53 [some (.ref 61), none] (r.toList ++ []) τ b)) := rfl
set_option maxRecDepth 100000 in
theorem b_X4_readToken_53 {C : xC} {Q : xQ} {K : xK} {I : xI} {L : xL} {z : Bool × Bool × Nat} {b : Nat × Nat} {s0 : Int32} :
  xrun k_X4_readToken 0 C Q [0, 19, 53, 71, 79, 98, 101, 121, 134, 153, 156, 188] K 9 53 [some (.ref 61), none] [.int s0] (xS I L z) b =
  (if s0 = (-1 : Int32) then Q none (xS (xw I 61 7 0) L z) else C 59 [.int s0] (xS I L z) (fun r τ => K 71 [some (.ref 61), some (.int s0)] (r.toList ++ []) τ b)) := rfl
set_option maxRecDepth 100000 in
theorem b_X4_readToken_71 {C : xC} {Q : xQ} {K : xK} {I : xI} {L : xL} {z : Bool × Bool × Nat} {b : Nat × Nat} {a1 : Int32} {s0 : Int32} :
  xrun k_X4_readToken 0 C Q [0, 19, 53, 71, 79, 98, 101, 121, 134, 153, 156, 188] K 4 71 [some (.ref 61), some (.int a1)] [.int s0] (xS I L z) b =
  (if s0 = 0 then C 60 [.int a1] (xS I L z) (fun r τ => K 121 [some (.ref 61), some (.int a1)] (r.toList ++ []) τ b) else K 79 [some (.ref 61), some (.int a1)] [] (xS (xw I 61 7 1) L z) b) := rfl
set_option maxRecDepth 100000 in
theorem b_X4_readToken_79 {C : xC} {Q : xQ} {K : xK} {I : xI} {L : xL} {z : Bool × Bool × Nat} {b : Nat × Nat} {a1 : Int32} :
  xrun k_X4_readToken 0 C Q [0, 19, 53, 71, 79, 98, 101, 121, 134, 153, 156, 188] K 9 79 [some (.ref 61), some (.int a1)] [] (xS I L z) b =
  (if (I 61 6) < (I 61 0) then C 58 [.ref 61, .int (I 61 6)] (xS I L z) (fun r τ => K 98 [some (.ref 61), some (.int a1)] (r.toList ++ []) τ b) else Q none (xS I L z)) := rfl
set_option maxRecDepth 100000 in
theorem b_X4_readToken_121 {C : xC} {Q : xQ} {K : xK} {I : xI} {L : xL} {z : Bool × Bool × Nat} {b : Nat × Nat} {a1 : Int32} {s0 : Int32} :
  xrun k_X4_readToken 0 C Q [0, 19, 53, 71, 79, 98, 101, 121, 134, 153, 156, 188] K 15 121 [some (.ref 61), some (.int a1)] [.int s0] (xS I L z) b =
  (if s0 = 0 then (if a1 = 59 then Q none (xS (xw (xw I 61 7 3) 61 6 (((xw I 61 7 3) 61 6) + 1)) L z) else Q none (xS (xw (xw I 61 7 4) 61 6 (((xw I 61 7 4) 61 6) + 1)) L z)) else K 134 [some (.ref 61), some (.int a1)] [] (xS (xw (xw I 61 7 2) 61 9 0) L z) b) := rfl
set_option maxRecDepth 100000 in
theorem b_X4_readToken_98 {C : xC} {Q : xQ} {K : xK} {I : xI} {L : xL} {z : Bool × Bool × Nat} {b : Nat × Nat} {a1 : Int32} {s0 : Int32} :
  xrun k_X4_readToken 0 C Q [0, 19, 53, 71, 79, 98, 101, 121, 134, 153, 156, 188] K 1 98 [some (.ref 61), some (.int a1)] [.int s0] (xS I L z) b =
  C 59 [.int s0] (xS I L z) (fun r τ => K 101 [some (.ref 61), some (.int a1)] (r.toList ++ []) τ b) := rfl
set_option maxRecDepth 100000 in
theorem b_X4_readToken_134 {C : xC} {Q : xQ} {K : xK} {I : xI} {L : xL} {z : Bool × Bool × Nat} {b : Nat × Nat} {a1 : Int32} :
  xrun k_X4_readToken 0 C Q [0, 19, 53, 71, 79, 98, 101, 121, 134, 153, 156, 188] K 9 134 [some (.ref 61), some (.int a1)] [] (xS I L z) b =
  (if (I 61 6) < (I 61 0) then C 58 [.ref 61, .int (I 61 6)] (xS I L z) (fun r τ => K 153 [some (.ref 61), some (.int a1)] (r.toList ++ []) τ b) else Q none (xS I L z)) := rfl
set_option maxRecDepth 100000 in
theorem b_X4_readToken_101 {C : xC} {Q : xQ} {K : xK} {I : xI} {L : xL} {z : Bool × Bool × Nat} {b : Nat × Nat} {a1 : Int32} {s0 : Int32} :
  xrun k_X4_readToken 0 C Q [0, 19, 53, 71, 79, 98, 101, 121, 134, 153, 156, 188] K 8 101 [some (.ref 61), some (.int a1)] [.int s0] (xS I L z) b =
  (if s0 = 0 then Q none (xS I L z) else K 79 [some (.ref 61), some (.int a1)] [] (xS (xw I 61 6 ((I 61 6) + 1)) L z) b) := rfl
set_option maxRecDepth 100000 in
theorem b_X4_readToken_153 {C : xC} {Q : xQ} {K : xK} {I : xI} {L : xL} {z : Bool × Bool × Nat} {b : Nat × Nat} {a1 : Int32} {s0 : Int32} :
  xrun k_X4_readToken 0 C Q [0, 19, 53, 71, 79, 98, 101, 121, 134, 153, 156, 188] K 1 153 [some (.ref 61), some (.int a1)] [.int s0] (xS I L z) b =
  C 60 [.int s0] (xS I L z) (fun r τ => K 156 [some (.ref 61), some (.int a1)] (r.toList ++ []) τ b) := rfl
set_option maxRecDepth 100000 in
theorem b_X4_readToken_156 {C : xC} {Q : xQ} {K : xK} {I : xI} {L : xL} {z : Bool × Bool × Nat} {b : Nat × Nat} {a1 : Int32} {s0 : Int32} :
  xrun k_X4_readToken 0 C Q [0, 19, 53, 71, 79, 98, 101, 121, 134, 153, 156, 188] K 18 156 [some (.ref 61), some (.int a1)] [.int s0] (xS I L z) b =
  (if s0 = 0 then Q none (xS I L z) else (if ((I 61 6) - (I 61 8)) < 2 then C 58 [.ref 61, .int (I 61 6)] (xS I L z) (fun r τ => K 188 [some (.ref 61), some (.int a1)] (r.toList ++ [.int ((I 61 9) * 10), .ref 61]) τ b) else K 134 [some (.ref 61), some (.int a1)] [] (xS (xw (xw I 61 9 (-1 : Int32)) 61 6 (((xw I 61 9 (-1 : Int32)) 61 6) + 1)) L z) b)) := rfl
set_option maxRecDepth 100000 in
theorem b_X4_readToken_188 {C : xC} {Q : xQ} {K : xK} {I : xI} {L : xL} {z : Bool × Bool × Nat} {b : Nat × Nat} {a1 : Int32} {s1 : Int32} {s0 : Int32} :
  xrun k_X4_readToken 0 C Q [0, 19, 53, 71, 79, 98, 101, 121, 134, 153, 156, 188] K 12 188 [some (.ref 61), some (.int a1)] [.int s0, .int s1, .ref 61] (xS I L z) b =
  K 134 [some (.ref 61), some (.int a1)] [] (xS (xw (xw I 61 9 ((s1 + s0) - 48)) 61 6 (((xw I 61 9 ((s1 + s0) - 48)) 61 6) + 1)) L z) b := rfl
set_option maxRecDepth 100000 in
theorem b_X4_isToken_0 {C : xC} {Q : xQ} {K : xK} {I : xI} {L : xL} {z : Bool × Bool × Nat} {b : Nat × Nat} {a1 : Nat} :
  xrun k_X4_isToken 2 C Q [28, 46] K 14 0 [some (.ref 61), some (.ref a1), none] [] (xS I L z) b =
  (if (I 61 7) = 1 then (bif Nat.beq (xkind a1) 24 && Nat.ble 1 4 then (if ((I 61 6) - (I 61 8)) = (Int32.ofNat (xtext a1).length) then K 28 [some (.ref 61), some (.ref a1), some (.int 0)] [] (xS I L z) b else Q (some (.int 0)) (xS I L z)) else False) else Q (some (.int 0)) (xS I L z)) := rfl
set_option maxRecDepth 100000 in
theorem b_X4_isToken_28 {C : xC} {Q : xQ} {K : xK} {I : xI} {L : xL} {z : Bool × Bool × Nat} {b : Nat × Nat} {a1 : Nat} {a2 : Int32} :
  xrun k_X4_isToken 2 C Q [28, 46] K 10 28 [some (.ref 61), some (.ref a1), some (.int a2)] [] (xS I L z) b =
  (bif Nat.beq (xkind a1) 24 && Nat.ble 1 4 then (if a2 < (Int32.ofNat (xtext a1).length) then C 58 [.ref 61, .int ((I 61 8) + a2)] (xS I L z) (fun r τ => K 46 [some (.ref 61), some (.ref a1), some (.int a2)] (r.toList ++ []) τ b) else Q (some (.int 1)) (xS I L z)) else False) := rfl
set_option maxRecDepth 100000 in
theorem b_X4_isToken_46 {C : xC} {Q : xQ} {K : xK} {I : xI} {L : xL} {z : Bool × Bool × Nat} {b : Nat × Nat} {a1 : Nat} {a2 : Int32} {s0 : Int32} :
  xrun k_X4_isToken 2 C Q [28, 46] K 6 46 [some (.ref 61), some (.ref a1), some (.int a2)] [.int s0] (xS I L z) b =
  (bif Nat.beq (xkind a1) 24 && Nat.ble 1 4 then (if xin a2 (xtext a1).length then (if s0 = (Int32.ofNat (xnth 0 (xtext a1) (Int32.toNatClampNeg a2))) then K 28 [some (.ref 61), some (.ref a1), some (.int (a2 + 1))] [] (xS I L z) b else Q (some (.int 0)) (xS I L z)) else False) else False) := rfl
set_option maxRecDepth 100000 in
theorem b_X4_readStatement_0 {C : xC} {Q : xQ} {K : xK} {I : xI} {L : xL} {z : Bool × Bool × Nat} {b : Nat × Nat}  :
  xrun k_X4_readStatement 2 C Q [6, 13, 20, 27, 34, 41, 48, 55, 62, 69, 76, 83, 92] K 3 0 [some (.ref 61)] [] (xS I L z) b =
  C 62 [.ref 61, .ref 3] (xS I L z) (fun r τ => K 6 [some (.ref 61)] (r.toList ++ []) τ b) := rfl
set_option maxRecDepth 100000 in
theorem b_X4_readStatement_6 {C : xC} {Q : xQ} {K : xK} {I : xI} {L : xL} {z : Bool × Bool × Nat} {b : Nat × Nat} {s0 : Int32} :
  xrun k_X4_readStatement 2 C Q [6, 13, 20, 27, 34, 41, 48, 55, 62, 69, 76, 83, 92] K 4 6 [some (.ref 61)] [.int s0] (xS I L z) b =
  (if s0 = 0 then C 62 [.ref 61, .ref 4] (xS I L z) (fun r τ => K 20 [some (.ref 61)] (r.toList ++ []) τ b) else C 66 [.ref 61] (xS I L z) (fun r τ => K 13 [some (.ref 61)] (r.toList ++ []) τ b)) := rfl
set_option maxRecDepth 100000 in
theorem b_X4_readStatement_13 {C : xC} {Q : xQ} {K : xK} {I : xI} {L : xL} {z : Bool × Bool × Nat} {b : Nat × Nat} {s0 : Int32} :
  xrun k_X4_readStatement 2 C Q [6, 13, 20, 27, 34, 41, 48, 55, 62, 69, 76, 83, 92] K 1 13 [some (.ref 61)] [.int s0] (xS I L z) b =
  (bif xbool s0 then Q (some (.int s0)) (xS I L z) else False) := rfl
set_option maxRecDepth 100000 in
theorem b_X4_readStatement_20 {C : xC} {Q : xQ} {K : xK} {I : xI} {L : xL} {z : Bool × Bool × Nat} {b : Nat × Nat} {s0 : Int32} :
  xrun k_X4_readStatement 2 C Q [6, 13, 20, 27, 34, 41, 48, 55, 62, 69, 76, 83, 92] K 4 20 [some (.ref 61)] [.int s0] (xS I L z) b =
  (if s0 = 0 then C 62 [.ref 61, .ref 5] (xS I L z) (fun r τ => K 34 [some (.ref 61)] (r.toList ++ []) τ b) else C 67 [.ref 61] (xS I L z) (fun r τ => K 27 [some (.ref 61)] (r.toList ++ []) τ b)) := rfl
set_option maxRecDepth 100000 in
theorem b_X4_readStatement_27 {C : xC} {Q : xQ} {K : xK} {I : xI} {L : xL} {z : Bool × Bool × Nat} {b : Nat × Nat} {s0 : Int32} :
  xrun k_X4_readStatement 2 C Q [6, 13, 20, 27, 34, 41, 48, 55, 62, 69, 76, 83, 92] K 1 27 [some (.ref 61)] [.int s0] (xS I L z) b =
  (bif xbool s0 then Q (some (.int s0)) (xS I L z) else False) := rfl
set_option maxRecDepth 100000 in
theorem b_X4_readStatement_34 {C : xC} {Q : xQ} {K : xK} {I : xI} {L : xL} {z : Bool × Bool × Nat} {b : Nat × Nat} {s0 : Int32} :
  xrun k_X4_readStatement 2 C Q [6, 13, 20, 27, 34, 41, 48, 55, 62, 69, 76, 83, 92] K 4 34 [some (.ref 61)] [.int s0] (xS I L z) b =
  (if s0 = 0 then C 62 [.ref 61, .ref 6] (xS I L z) (fun r τ => K 48 [some (.ref 61)] (r.toList ++ []) τ b) else C 68 [.ref 61] (xS I L z) (fun r τ => K 41 [some (.ref 61)] (r.toList ++ []) τ b)) := rfl
set_option maxRecDepth 100000 in
theorem b_X4_readStatement_41 {C : xC} {Q : xQ} {K : xK} {I : xI} {L : xL} {z : Bool × Bool × Nat} {b : Nat × Nat} {s0 : Int32} :
  xrun k_X4_readStatement 2 C Q [6, 13, 20, 27, 34, 41, 48, 55, 62, 69, 76, 83, 92] K 1 41 [some (.ref 61)] [.int s0] (xS I L z) b =
  (bif xbool s0 then Q (some (.int s0)) (xS I L z) else False) := rfl
set_option maxRecDepth 100000 in
theorem b_X4_readStatement_48 {C : xC} {Q : xQ} {K : xK} {I : xI} {L : xL} {z : Bool × Bool × Nat} {b : Nat × Nat} {s0 : Int32} :
  xrun k_X4_readStatement 2 C Q [6, 13, 20, 27, 34, 41, 48, 55, 62, 69, 76, 83, 92] K 4 48 [some (.ref 61)] [.int s0] (xS I L z) b =
  (if s0 = 0 then C 62 [.ref 61, .ref 7] (xS I L z) (fun r τ => K 62 [some (.ref 61)] (r.toList ++ []) τ b) else C 69 [.ref 61] (xS I L z) (fun r τ => K 55 [some (.ref 61)] (r.toList ++ []) τ b)) := rfl
set_option maxRecDepth 100000 in
theorem b_X4_readStatement_55 {C : xC} {Q : xQ} {K : xK} {I : xI} {L : xL} {z : Bool × Bool × Nat} {b : Nat × Nat} {s0 : Int32} :
  xrun k_X4_readStatement 2 C Q [6, 13, 20, 27, 34, 41, 48, 55, 62, 69, 76, 83, 92] K 1 55 [some (.ref 61)] [.int s0] (xS I L z) b =
  (bif xbool s0 then Q (some (.int s0)) (xS I L z) else False) := rfl
set_option maxRecDepth 100000 in
theorem b_X4_readStatement_62 {C : xC} {Q : xQ} {K : xK} {I : xI} {L : xL} {z : Bool × Bool × Nat} {b : Nat × Nat} {s0 : Int32} :
  xrun k_X4_readStatement 2 C Q [6, 13, 20, 27, 34, 41, 48, 55, 62, 69, 76, 83, 92] K 4 62 [some (.ref 61)] [.int s0] (xS I L z) b =
  (if s0 = 0 then C 62 [.ref 61, .ref 8] (xS I L z) (fun r τ => K 76 [some (.ref 61)] (r.toList ++ []) τ b) else C 70 [.ref 61] (xS I L z) (fun r τ => K 69 [some (.ref 61)] (r.toList ++ []) τ b)) := rfl
set_option maxRecDepth 100000 in
theorem b_X4_readStatement_69 {C : xC} {Q : xQ} {K : xK} {I : xI} {L : xL} {z : Bool × Bool × Nat} {b : Nat × Nat} {s0 : Int32} :
  xrun k_X4_readStatement 2 C Q [6, 13, 20, 27, 34, 41, 48, 55, 62, 69, 76, 83, 92] K 1 69 [some (.ref 61)] [.int s0] (xS I L z) b =
  (bif xbool s0 then Q (some (.int s0)) (xS I L z) else False) := rfl
set_option maxRecDepth 100000 in
theorem b_X4_readStatement_76 {C : xC} {Q : xQ} {K : xK} {I : xI} {L : xL} {z : Bool × Bool × Nat} {b : Nat × Nat} {s0 : Int32} :
  xrun k_X4_readStatement 2 C Q [6, 13, 20, 27, 34, 41, 48, 55, 62, 69, 76, 83, 92] K 5 76 [some (.ref 61)] [.int s0] (xS I L z) b =
  (if s0 = 0 then C 63 [.ref 61, .int (I 61 8)] (xS I L z) (fun r τ => K 92 [some (.ref 61)] (r.toList ++ []) τ b) else C 71 [.ref 61] (xS I L z) (fun r τ => K 83 [some (.ref 61)] (r.toList ++ []) τ b)) := rfl
set_option maxRecDepth 100000 in
theorem b_X4_readStatement_83 {C : xC} {Q : xQ} {K : xK} {I : xI} {L : xL} {z : Bool × Bool × Nat} {b : Nat × Nat} {s0 : Int32} :
  xrun k_X4_readStatement 2 C Q [6, 13, 20, 27, 34, 41, 48, 55, 62, 69, 76, 83, 92] K 1 83 [some (.ref 61)] [.int s0] (xS I L z) b =
  (bif xbool s0 then Q (some (.int s0)) (xS I L z) else False) := rfl
set_option maxRecDepth 100000 in
theorem b_X4_readStatement_92 {C : xC} {Q : xQ} {K : xK} {I : xI} {L : xL} {z : Bool × Bool × Nat} {b : Nat × Nat} {s0 : Int32} :
  xrun k_X4_readStatement 2 C Q [6, 13, 20, 27, 34, 41, 48, 55, 62, 69, 76, 83, 92] K 1 92 [some (.ref 61)] [.int s0] (xS I L z) b =
  (bif xbool s0 then Q (some (.int s0)) (xS I L z) else False) := rfl
set_option maxRecDepth 100000 in
theorem b_X4_readNumber_0 {C : xC} {Q : xQ} {K : xK} {I : xI} {L : xL} {z : Bool × Bool × Nat} {b : Nat × Nat} {a1 : Int32} {a2 : Int32} :
  xrun k_X4_readNumber 1 C Q [4] K 2 0 [some (.ref 61), some (.int a1), some (.int a2)] [] (xS I L z) b =
  C 61 [.ref 61] (xS I L z) (fun r τ => K 4 [some (.ref 61), some (.int a1), some (.int a2)] (r.toList ++ []) τ b) := rfl
set_option maxRecDepth 100000 in
theorem b_X4_readNumber_4 {C : xC} {Q : xQ} {K : xK} {I : xI} {L : xL} {z : Bool × Bool × Nat} {b : Nat × Nat} {a1 : Int32} {a2 : Int32} :
  xrun k_X4_readNumber 1 C Q [4] K 18 4 [some (.ref 61), some (.int a1), some (.int a2)] [] (xS I L z) b =
  (if (I 61 7) = 2 then (if (I 61 9) < a1 then Q (some (.int (-1 : Int32))) (xS (xw I 61 1 (I 61 8)) L z) else (if a2 < (I 61 9) then Q (some (.int (-1 : Int32))) (xS (xw I 61 1 (I 61 8)) L z) else Q (some (.int (I 61 9))) (xS I L z))) else Q (some (.int (-1 : Int32))) (xS (xw I 61 1 (I 61 8)) L z)) := rfl
set_option maxRecDepth 100000 in
theorem b_X4_readCups_0 {C : xC} {Q : xQ} {K : xK} {I : xI} {L : xL} {z : Bool × Bool × Nat} {b : Nat × Nat}  :
  xrun k_X4_readCups 2 C Q [7, 23] K 4 0 [some (.ref 61), none] [] (xS I L z) b =
  C 65 [.ref 61, .int 2, .int 6] (xS I L z) (fun r τ => K 7 [some (.ref 61), none] (r.toList ++ []) τ b) := rfl
set_option maxRecDepth 100000 in
theorem b_X4_readCups_7 {C : xC} {Q : xQ} {K : xK} {I : xI} {L : xL} {z : Bool × Bool × Nat} {b : Nat × Nat} {s0 : Int32} :
  xrun k_X4_readCups 2 C Q [7, 23] K 8 7 [some (.ref 61), none] [.int s0] (xS I L z) b =
  (if s0 = (-1 : Int32) then Q (some (.int 0)) (xS I L z) else C 87 [.ref 10, .int s0] (xS I L z) (fun r τ => K 23 [some (.ref 61), some (.int s0)] (r.toList ++ []) τ b)) := rfl
set_option maxRecDepth 100000 in
theorem b_X4_readCups_23 {C : xC} {Q : xQ} {K : xK} {I : xI} {L : xL} {z : Bool × Bool × Nat} {b : Nat × Nat} {a1 : Int32} :
  xrun k_X4_readCups 2 C Q [7, 23] K 2 23 [some (.ref 61), some (.int a1)] [] (xS I L z) b =
  Q (some (.int 1)) (xS I L z) := rfl
set_option maxRecDepth 100000 in
theorem b_X4_readPour_0 {C : xC} {Q : xQ} {K : xK} {I : xI} {L : xL} {z : Bool × Bool × Nat} {b : Nat × Nat}  :
  xrun k_X4_readPour 2 C Q [2, 28, 60] K 2 0 [some (.ref 61), none, none] [] (xS I L z) b =
  K 2 [some (.ref 61), some (.int 0), none] [] (xS I L z) b := rfl
set_option maxRecDepth 100000 in
theorem b_X4_readPour_2 {C : xC} {Q : xQ} {K : xK} {I : xI} {L : xL} {z : Bool × Bool × Nat} {b : Nat × Nat} {a1 : Int32} :
  xrun k_X4_readPour 2 C Q [2, 28, 60] K 15 2 [some (.ref 61), some (.int a1), none] [] (xS I L z) b =
  (if a1 < (I 10 0) then (if a1 < 6 then C 65 [.ref 61, .int 0, .int 5] (xS I L z) (fun r τ => K 28 [some (.ref 61), some (.int a1), none] (r.toList ++ []) τ b) else C 88 [.ref 10, .ref 63] (xS I L z) (fun r τ => K 60 [some (.ref 61), some (.int a1), none] (r.toList ++ []) τ b)) else C 88 [.ref 10, .ref 63] (xS I L z) (fun r τ => K 60 [some (.ref 61), some (.int a1), none] (r.toList ++ []) τ b)) := rfl
set_option maxRecDepth 100000 in
theorem b_X4_readPour_28 {C : xC} {Q : xQ} {K : xK} {I : xI} {L : xL} {z : Bool × Bool × Nat} {b : Nat × Nat} {a1 : Int32} {s0 : Int32} :
  xrun k_X4_readPour 2 C Q [2, 28, 60] K 11 28 [some (.ref 61), some (.int a1), none] [.int s0] (xS I L z) b =
  (if s0 = (-1 : Int32) then Q (some (.int 0)) (xS I L z) else (if xin a1 (6) then K 2 [some (.ref 61), some (.int (a1 + 1)), some (.int s0)] [] (xS (xw I 63 (Int32.toNatClampNeg a1) s0) L z) b else False)) := rfl
set_option maxRecDepth 100000 in
theorem b_X4_readPour_60 {C : xC} {Q : xQ} {K : xK} {I : xI} {L : xL} {z : Bool × Bool × Nat} {b : Nat × Nat} {a1 : Int32} :
  xrun k_X4_readPour 2 C Q [2, 28, 60] K 2 60 [some (.ref 61), some (.int a1), none] [] (xS I L z) b =
  Q (some (.int 1)) (xS I L z) := rfl
set_option maxRecDepth 100000 in
theorem b_X4_readLaw_0 {C : xC} {Q : xQ} {K : xK} {I : xI} {L : xL} {z : Bool × Bool × Nat} {b : Nat × Nat}  :
  xrun k_X4_readLaw 2 C Q [6, 22] K 4 0 [some (.ref 61), none] [] (xS I L z) b =
  C 65 [.ref 61, .int 0, .int 2] (xS I L z) (fun r τ => K 6 [some (.ref 61), none] (r.toList ++ []) τ b) := rfl
set_option maxRecDepth 100000 in
theorem b_X4_readLaw_6 {C : xC} {Q : xQ} {K : xK} {I : xI} {L : xL} {z : Bool × Bool × Nat} {b : Nat × Nat} {s0 : Int32} :
  xrun k_X4_readLaw 2 C Q [6, 22] K 8 6 [some (.ref 61), none] [.int s0] (xS I L z) b =
  (if s0 = (-1 : Int32) then Q (some (.int 0)) (xS I L z) else C 89 [.ref 10, .int s0] (xS I L z) (fun r τ => K 22 [some (.ref 61), some (.int s0)] (r.toList ++ []) τ b)) := rfl
set_option maxRecDepth 100000 in
theorem b_X4_readLaw_22 {C : xC} {Q : xQ} {K : xK} {I : xI} {L : xL} {z : Bool × Bool × Nat} {b : Nat × Nat} {a1 : Int32} :
  xrun k_X4_readLaw 2 C Q [6, 22] K 2 22 [some (.ref 61), some (.int a1)] [] (xS I L z) b =
  Q (some (.int 1)) (xS I L z) := rfl
set_option maxRecDepth 100000 in
theorem b_X4_readSort_0 {C : xC} {Q : xQ} {K : xK} {I : xI} {L : xL} {z : Bool × Bool × Nat} {b : Nat × Nat}  :
  xrun k_X4_readSort 2 C Q [6, 16, 28, 46] K 4 0 [some (.ref 61), none, none, none] [] (xS I L z) b =
  C 65 [.ref 61, .int 0, .int 5] (xS I L z) (fun r τ => K 6 [some (.ref 61), none, none, none] (r.toList ++ []) τ b) := rfl
set_option maxRecDepth 100000 in
theorem b_X4_readSort_6 {C : xC} {Q : xQ} {K : xK} {I : xI} {L : xL} {z : Bool × Bool × Nat} {b : Nat × Nat} {s0 : Int32} :
  xrun k_X4_readSort 2 C Q [6, 16, 28, 46] K 6 6 [some (.ref 61), none, none, none] [.int s0] (xS I L z) b =
  (if s0 = (-1 : Int32) then Q (some (.int 0)) (xS I L z) else K 16 [some (.ref 61), some (.int s0), some (.int 0), none] [] (xS I L z) b) := rfl
set_option maxRecDepth 100000 in
theorem b_X4_readSort_16 {C : xC} {Q : xQ} {K : xK} {I : xI} {L : xL} {z : Bool × Bool × Nat} {b : Nat × Nat} {a1 : Int32} {a2 : Int32} :
  xrun k_X4_readSort 2 C Q [6, 16, 28, 46] K 7 16 [some (.ref 61), some (.int a1), some (.int a2), none] [] (xS I L z) b =
  (if a2 < 3 then C 65 [.ref 61, .int 0, .int 9] (xS I L z) (fun r τ => K 28 [some (.ref 61), some (.int a1), some (.int a2), none] (r.toList ++ []) τ b) else Q (some (.int 1)) (xS I L z)) := rfl
set_option maxRecDepth 100000 in
theorem b_X4_readSort_28 {C : xC} {Q : xQ} {K : xK} {I : xI} {L : xL} {z : Bool × Bool × Nat} {b : Nat × Nat} {a1 : Int32} {a2 : Int32} {s0 : Int32} :
  xrun k_X4_readSort 2 C Q [6, 16, 28, 46] K 10 28 [some (.ref 61), some (.int a1), some (.int a2), none] [.int s0] (xS I L z) b =
  (if s0 = (-1 : Int32) then Q (some (.int 0)) (xS I L z) else C 91 [.ref 10, .int a1, .int a2, .int s0] (xS I L z) (fun r τ => K 46 [some (.ref 61), some (.int a1), some (.int a2), some (.int s0)] (r.toList ++ []) τ b)) := rfl
set_option maxRecDepth 100000 in
theorem b_X4_readSort_46 {C : xC} {Q : xQ} {K : xK} {I : xI} {L : xL} {z : Bool × Bool × Nat} {b : Nat × Nat} {a1 : Int32} {a2 : Int32} {a3 : Int32} :
  xrun k_X4_readSort 2 C Q [6, 16, 28, 46] K 2 46 [some (.ref 61), some (.int a1), some (.int a2), some (.int a3)] [] (xS I L z) b =
  K 16 [some (.ref 61), some (.int a1), some (.int (a2 + 1)), some (.int a3)] [] (xS I L z) b := rfl
set_option maxRecDepth 100000 in
theorem b_X4_readGuest_0 {C : xC} {Q : xQ} {K : xK} {I : xI} {L : xL} {z : Bool × Bool × Nat} {b : Nat × Nat}  :
  xrun k_X4_readGuest 2 C Q [14, 30, 47, 65] K 8 0 [some (.ref 61), none, none, none] [] (xS I L z) b =
  C 65 [.ref 61, .int 0, .int ((I 10 0) - 1)] (xS I L z) (fun r τ => K 14 [some (.ref 61), none, none, none] (r.toList ++ []) τ b) := rfl
set_option maxRecDepth 100000 in
theorem b_X4_readGuest_14 {C : xC} {Q : xQ} {K : xK} {I : xI} {L : xL} {z : Bool × Bool × Nat} {b : Nat × Nat} {s0 : Int32} :
  xrun k_X4_readGuest 2 C Q [14, 30, 47, 65] K 8 14 [some (.ref 61), none, none, none] [.int s0] (xS I L z) b =
  (if s0 = (-1 : Int32) then K 30 [some (.ref 61), some (.int s0), none, none] [.int (-1 : Int32)] (xS I L z) b else C 65 [.ref 61, .int 0, .int 5] (xS I L z) (fun r τ => K 30 [some (.ref 61), some (.int s0), none, none] (r.toList ++ []) τ b)) := rfl
set_option maxRecDepth 100000 in
theorem b_X4_readGuest_30 {C : xC} {Q : xQ} {K : xK} {I : xI} {L : xL} {z : Bool × Bool × Nat} {b : Nat × Nat} {a1 : Int32} {s0 : Int32} :
  xrun k_X4_readGuest 2 C Q [14, 30, 47, 65] K 8 30 [some (.ref 61), some (.int a1), none, none] [.int s0] (xS I L z) b =
  (if s0 = (-1 : Int32) then K 47 [some (.ref 61), some (.int a1), some (.int s0), none] [.int (-1 : Int32)] (xS I L z) b else C 65 [.ref 61, .int 0, .int 9] (xS I L z) (fun r τ => K 47 [some (.ref 61), some (.int a1), some (.int s0), none] (r.toList ++ []) τ b)) := rfl
set_option maxRecDepth 100000 in
theorem b_X4_readGuest_47 {C : xC} {Q : xQ} {K : xK} {I : xI} {L : xL} {z : Bool × Bool × Nat} {b : Nat × Nat} {a1 : Int32} {a2 : Int32} {s0 : Int32} :
  xrun k_X4_readGuest 2 C Q [14, 30, 47, 65] K 10 47 [some (.ref 61), some (.int a1), some (.int a2), none] [.int s0] (xS I L z) b =
  (if s0 = (-1 : Int32) then Q (some (.int 0)) (xS I L z) else C 92 [.ref 10, .int a1, .int a2, .int s0] (xS I L z) (fun r τ => K 65 [some (.ref 61), some (.int a1), some (.int a2), some (.int s0)] (r.toList ++ []) τ b)) := rfl
set_option maxRecDepth 100000 in
theorem b_X4_readGuest_65 {C : xC} {Q : xQ} {K : xK} {I : xI} {L : xL} {z : Bool × Bool × Nat} {b : Nat × Nat} {a1 : Int32} {a2 : Int32} {a3 : Int32} :
  xrun k_X4_readGuest 2 C Q [14, 30, 47, 65] K 2 65 [some (.ref 61), some (.int a1), some (.int a2), some (.int a3)] [] (xS I L z) b =
  Q (some (.int 1)) (xS I L z) := rfl
set_option maxRecDepth 100000 in
theorem b_X4_readSign_0 {C : xC} {Q : xQ} {K : xK} {I : xI} {L : xL} {z : Bool × Bool × Nat} {b : Nat × Nat}  :
  xrun k_X4_readSign 2 C Q [19, 35, 52, 69, 80, 91, 103, 111] K 11 0 [some (.ref 61), none, none, none, none] [] (xS I L z) b =
  C 65 [.ref 61, .int 0, .int ((I 10 0) - 1)] (xS I L z) (fun r τ => K 19 [some (.ref 61), some (.int (I 61 8)), none, none, none] (r.toList ++ []) τ b) := rfl
set_option maxRecDepth 100000 in
theorem b_X4_readSign_19 {C : xC} {Q : xQ} {K : xK} {I : xI} {L : xL} {z : Bool × Bool × Nat} {b : Nat × Nat} {a1 : Int32} {s0 : Int32} :
  xrun k_X4_readSign 2 C Q [19, 35, 52, 69, 80, 91, 103, 111] K 8 19 [some (.ref 61), some (.int a1), none, none, none] [.int s0] (xS I L z) b =
  (if s0 = (-1 : Int32) then K 35 [some (.ref 61), some (.int a1), some (.int s0), none, none] [.int (-1 : Int32)] (xS I L z) b else C 65 [.ref 61, .int 0, .int 3] (xS I L z) (fun r τ => K 35 [some (.ref 61), some (.int a1), some (.int s0), none, none] (r.toList ++ []) τ b)) := rfl
set_option maxRecDepth 100000 in
theorem b_X4_readSign_35 {C : xC} {Q : xQ} {K : xK} {I : xI} {L : xL} {z : Bool × Bool × Nat} {b : Nat × Nat} {a1 : Int32} {a2 : Int32} {s0 : Int32} :
  xrun k_X4_readSign 2 C Q [19, 35, 52, 69, 80, 91, 103, 111] K 8 35 [some (.ref 61), some (.int a1), some (.int a2), none, none] [.int s0] (xS I L z) b =
  (if s0 = (-1 : Int32) then K 52 [some (.ref 61), some (.int a1), some (.int a2), some (.int s0), none] [.int (-1 : Int32)] (xS I L z) b else C 65 [.ref 61, .int 0, .int 9] (xS I L z) (fun r τ => K 52 [some (.ref 61), some (.int a1), some (.int a2), some (.int s0), none] (r.toList ++ []) τ b)) := rfl
set_option maxRecDepth 100000 in
theorem b_X4_readSign_52 {C : xC} {Q : xQ} {K : xK} {I : xI} {L : xL} {z : Bool × Bool × Nat} {b : Nat × Nat} {a1 : Int32} {a2 : Int32} {a3 : Int32} {s0 : Int32} :
  xrun k_X4_readSign 2 C Q [19, 35, 52, 69, 80, 91, 103, 111] K 7 52 [some (.ref 61), some (.int a1), some (.int a2), some (.int a3), none] [.int s0] (xS I L z) b =
  (if s0 = (-1 : Int32) then Q (some (.int 0)) (xS I L z) else C 114 [.ref 37] (xS I L z) (fun r τ => K 69 [some (.ref 61), some (.int a1), some (.int a2), some (.int a3), some (.int s0)] (r.toList ++ []) τ b)) := rfl
set_option maxRecDepth 100000 in
theorem b_X4_readSign_69 {C : xC} {Q : xQ} {K : xK} {I : xI} {L : xL} {z : Bool × Bool × Nat} {b : Nat × Nat} {a1 : Int32} {a2 : Int32} {a3 : Int32} {a4 : Int32} :
  xrun k_X4_readSign 2 C Q [19, 35, 52, 69, 80, 91, 103, 111] K 6 69 [some (.ref 61), some (.int a1), some (.int a2), some (.int a3), some (.int a4)] [] (xS I L z) b =
  C 126 [.ref 37, .int a2, .int a3, .int a4] (xS I L z) (fun r τ => K 80 [some (.ref 61), some (.int a1), some (.int a2), some (.int a3), some (.int a4)] (r.toList ++ []) τ b) := rfl
set_option maxRecDepth 100000 in
theorem b_X4_readSign_80 {C : xC} {Q : xQ} {K : xK} {I : xI} {L : xL} {z : Bool × Bool × Nat} {b : Nat × Nat} {a1 : Int32} {a2 : Int32} {a3 : Int32} {a4 : Int32} {s0 : Int32} :
  xrun k_X4_readSign 2 C Q [19, 35, 52, 69, 80, 91, 103, 111] K 7 80 [some (.ref 61), some (.int a1), some (.int a2), some (.int a3), some (.int a4)] [.int s0] (xS I L z) b =
  (if s0 = 0 then C 63 [.ref 61, .int (I 61 8)] (xS I L z) (fun r τ => K 91 [some (.ref 61), some (.int a1), some (.int a2), some (.int a3), some (.int a4)] (r.toList ++ []) τ b) else C 100 [.ref 10, .int a2, .int a3, .int a4] (xS I L z) (fun r τ => K 103 [some (.ref 61), some (.int a1), some (.int a2), some (.int a3), some (.int a4)] (r.toList ++ []) τ b)) := rfl
set_option maxRecDepth 100000 in
theorem b_X4_readSign_91 {C : xC} {Q : xQ} {K : xK} {I : xI} {L : xL} {z : Bool × Bool × Nat} {b : Nat × Nat} {a1 : Int32} {a2 : Int32} {a3 : Int32} {a4 : Int32} {s0 : Int32} :
  xrun k_X4_readSign 2 C Q [19, 35, 52, 69, 80, 91, 103, 111] K 1 91 [some (.ref 61), some (.int a1), some (.int a2), some (.int a3), some (.int a4)] [.int s0] (xS I L z) b =
  (bif xbool s0 then Q (some (.int s0)) (xS I L z) else False) := rfl
set_option maxRecDepth 100000 in
theorem b_X4_readSign_103 {C : xC} {Q : xQ} {K : xK} {I : xI} {L : xL} {z : Bool × Bool × Nat} {b : Nat × Nat} {a1 : Int32} {a2 : Int32} {a3 : Int32} {a4 : Int32} {s0 : Int32} :
  xrun k_X4_readSign 2 C Q [19, 35, 52, 69, 80, 91, 103, 111] K 4 103 [some (.ref 61), some (.int a1), some (.int a2), some (.int a3), some (.int a4)] [.int s0] (xS I L z) b =
  (if s0 = 0 then C 63 [.ref 61, .int a1] (xS I L z) (fun r τ => K 111 [some (.ref 61), some (.int a1), some (.int a2), some (.int a3), some (.int a4)] (r.toList ++ []) τ b) else Q (some (.int 1)) (xS I L z)) := rfl
set_option maxRecDepth 100000 in
theorem b_X4_readSign_111 {C : xC} {Q : xQ} {K : xK} {I : xI} {L : xL} {z : Bool × Bool × Nat} {b : Nat × Nat} {a1 : Int32} {a2 : Int32} {a3 : Int32} {a4 : Int32} {s0 : Int32} :
  xrun k_X4_readSign 2 C Q [19, 35, 52, 69, 80, 91, 103, 111] K 4 111 [some (.ref 61), some (.int a1), some (.int a2), some (.int a3), some (.int a4)] [.int s0] (xS I L z) b =
  (if s0 = 0 then Q (some (.int 0)) (xS I L z) else Q (some (.int 1)) (xS I L z)) := rfl
set_option maxRecDepth 100000 in
theorem b_X5_isUnder_0 {C : xC} {Q : xQ} {K : xK} {I : xI} {L : xL} {z : Bool × Bool × Nat} {b : Nat × Nat} {a0 : Int32} {a1 : Int32} :
  xrun k_X5_isUnder 2 C Q [4, 16] K 4 0 [some (.int a0), some (.int a1), none, none] [] (xS I L z) b =
  K 4 [some (.int a0), some (.int a1), some (.int a0), some (.int 0)] [] (xS I L z) b := rfl
set_option maxRecDepth 100000 in
theorem b_X5_isUnder_4 {C : xC} {Q : xQ} {K : xK} {I : xI} {L : xL} {z : Bool × Bool × Nat} {b : Nat × Nat} {a0 : Int32} {a1 : Int32} {a2 : Int32} {a3 : Int32} :
  xrun k_X5_isUnder 2 C Q [4, 16] K 6 4 [some (.int a0), some (.int a1), some (.int a2), some (.int a3)] [] (xS I L z) b =
  (if a3 < 6 then C 73 [.int a2] (xS I L z) (fun r τ => K 16 [some (.int a0), some (.int a1), some (.int a2), some (.int a3)] (r.toList ++ []) τ b) else Q (some (.int 0)) (xS I L z)) := rfl
set_option maxRecDepth 100000 in
theorem b_X5_isUnder_16 {C : xC} {Q : xQ} {K : xK} {I : xI} {L : xL} {z : Bool × Bool × Nat} {b : Nat × Nat} {a0 : Int32} {a1 : Int32} {a2 : Int32} {a3 : Int32} {s0 : Int32} :
  xrun k_X5_isUnder 2 C Q [4, 16] K 10 16 [some (.int a0), some (.int a1), some (.int a2), some (.int a3)] [.int s0] (xS I L z) b =
  (if s0 = 0 then Q (some (.int 0)) (xS I L z) else (if a2 = a1 then Q (some (.int 1)) (xS I L z) else (if xin a2 (6) then K 4 [some (.int a0), some (.int a1), some (.int (I 1 (Int32.toNatClampNeg a2))), some (.int (a3 + 1))] [] (xS I L z) b else False))) := rfl
