set_option maxRecDepth 100000 in
theorem b_X8_refuse_0 {C : xC} {Q : xQ} {K : xK} {I : xI} {L : xL} {z : Bool × Bool × Nat} {b : Nat × Nat} {a1 : Int32} :
  xrun k_X8_refuse 1 C Q [5, 18] K 4 0 [some (.ref 9), some (.int a1), none] [] (xS I L z) b =
  K 5 [some (.ref 9), some (.int a1), some (.int ((-2 : Int32) - a1))] [] (xS I L z) b := rfl
set_option maxRecDepth 100000 in
theorem b_X8_refuse_5 {C : xC} {Q : xQ} {K : xK} {I : xI} {L : xL} {z : Bool × Bool × Nat} {b : Nat × Nat} {a1 : Int32} {a2 : Int32} :
  xrun k_X8_refuse 1 C Q [5, 18] K 9 5 [some (.ref 9), some (.int a1), some (.int a2)] [] (xS I L z) b =
  (if a2 < 0 then Q (some (.int a1)) (xS I L z) else (if a2 < 5 then K 18 [some (.ref 9), some (.int a1), some (.int a2)] [] (xS I L z) b else Q (some (.int a1)) (xS I L z))) := rfl
set_option maxRecDepth 100000 in
theorem b_X8_refuse_18 {C : xC} {Q : xQ} {K : xK} {I : xI} {L : xL} {z : Bool × Bool × Nat} {b : Nat × Nat} {a1 : Int32} {a2 : Int32} :
  xrun k_X8_refuse 1 C Q [5, 18] K 10 18 [some (.ref 9), some (.int a1), some (.int a2)] [] (xS I L z) b =
  (if xin a2 (5) then (if xin a2 (5) then Q (some (.int a1)) (xS (xw I 65 (Int32.toNatClampNeg a2) ((I 65 (Int32.toNatClampNeg a2)) + 1)) L z) else False) else False) := rfl
set_option maxRecDepth 100000 in
theorem b_X0_meanWith_0 {C : xC} {Q : xQ} {K : xK} {I : xI} {L : xL} {z : Bool × Bool × Nat} {b : Nat × Nat} {a1 : Int32} {a2 : Int32} {a3 : Int32} :
  xrun k_X0_meanWith 1 C Q [] K 36 0 [some (.ref 50), some (.int a1), some (.int a2), some (.int a3), none, none] [] (xS I L z) b =
  (if ((a1 * 6) + a3) < 0 then Q (some (.int 0)) (xS I L z) else (if ((a1 * 6) + a3) < 36 then (if (a2 ||| (1 <<< (a3 &&& 31))) < 0 then Q (some (.int 0)) (xS I L z) else (if (a2 ||| (1 <<< (a3 &&& 31))) < 64 then (if xin ((a1 * 6) + a3) (36) then (if xin (a2 ||| (1 <<< (a3 &&& 31))) (64) then Q (some (.int ((I 51 (Int32.toNatClampNeg ((a1 * 6) + a3))) + (I 52 (Int32.toNatClampNeg (a2 ||| (1 <<< (a3 &&& 31)))))))) (xS I L z) else False) else False) else Q (some (.int 0)) (xS I L z))) else Q (some (.int 0)) (xS I L z))) := rfl
set_option maxRecDepth 100000 in
theorem b_X0_leastMean_0 {C : xC} {Q : xQ} {K : xK} {I : xI} {L : xL} {z : Bool × Bool × Nat} {b : Nat × Nat}  :
  xrun k_X0_leastMean 1 C Q [] K 5 0 [some (.ref 50)] [] (xS I L z) b =
  Q (some (.int (I 52 (Int32.toNatClampNeg 0)))) (xS I L z) := rfl
set_option maxRecDepth 100000 in
theorem b_X0_bestPlaceOf_0 {C : xC} {Q : xQ} {K : xK} {I : xI} {L : xL} {z : Bool × Bool × Nat} {b : Nat × Nat} {a1 : Int32} :
  xrun k_X0_bestPlaceOf 1 C Q [] K 13 0 [some (.ref 50), some (.int a1)] [] (xS I L z) b =
  (if a1 < 0 then Q (some (.int 0)) (xS I L z) else (if a1 < 6 then (if xin a1 (6) then Q (some (.int (I 53 (Int32.toNatClampNeg a1)))) (xS I L z) else False) else Q (some (.int 0)) (xS I L z))) := rfl
set_option maxRecDepth 100000 in
theorem b_X2_isShelf_0 {C : xC} {Q : xQ} {K : xK} {I : xI} {L : xL} {z : Bool × Bool × Nat} {b : Nat × Nat} {a0 : Int32} :
  xrun k_X2_isShelf 2 C Q [] K 8 0 [some (.int a0)] [] (xS I L z) b =
  (if a0 < 0 then Q (some (.int 0)) (xS I L z) else (if a0 < 8 then Q (some (.int 1)) (xS I L z) else Q (some (.int 0)) (xS I L z))) := rfl
set_option maxRecDepth 100000 in
theorem b_X2_isSort_0 {C : xC} {Q : xQ} {K : xK} {I : xI} {L : xL} {z : Bool × Bool × Nat} {b : Nat × Nat} {a0 : Int32} :
  xrun k_X2_isSort 2 C Q [] K 8 0 [some (.int a0)] [] (xS I L z) b =
  (if a0 < 0 then Q (some (.int 0)) (xS I L z) else (if a0 < 5 then Q (some (.int 1)) (xS I L z) else Q (some (.int 0)) (xS I L z))) := rfl
set_option maxRecDepth 100000 in
theorem b_X2_isSize_0 {C : xC} {Q : xQ} {K : xK} {I : xI} {L : xL} {z : Bool × Bool × Nat} {b : Nat × Nat} {a0 : Int32} :
  xrun k_X2_isSize 2 C Q [] K 8 0 [some (.int a0)] [] (xS I L z) b =
  (if a0 < 0 then Q (some (.int 0)) (xS I L z) else (if 40 < a0 then Q (some (.int 0)) (xS I L z) else Q (some (.int 1)) (xS I L z))) := rfl
set_option maxRecDepth 100000 in
theorem b_X2_thingOf_0 {C : xC} {Q : xQ} {K : xK} {I : xI} {L : xL} {z : Bool × Bool × Nat} {b : Nat × Nat} {a1 : Int32} :
  xrun k_X2_thingOf 1 C Q [4] K 2 0 [some (.ref 57), some (.int a1)] [] (xS I L z) b =
  C 35 [.int a1] (xS I L z) (fun r τ => K 4 [some (.ref 57), some (.int a1)] (r.toList ++ []) τ b) := rfl
set_option maxRecDepth 100000 in
theorem b_X2_thingOf_4 {C : xC} {Q : xQ} {K : xK} {I : xI} {L : xL} {z : Bool × Bool × Nat} {b : Nat × Nat} {a1 : Int32} {s0 : Int32} :
  xrun k_X2_thingOf 1 C Q [4] K 7 4 [some (.ref 57), some (.int a1)] [.int s0] (xS I L z) b =
  (if s0 = 0 then Q (some (.int (-1 : Int32))) (xS I L z) else (if xin a1 (8) then Q (some (.int (I 58 (Int32.toNatClampNeg a1)))) (xS I L z) else False)) := rfl
set_option maxRecDepth 100000 in
theorem b_X2_hasRow_0 {C : xC} {Q : xQ} {K : xK} {I : xI} {L : xL} {z : Bool × Bool × Nat} {b : Nat × Nat} {a1 : Int32} :
  xrun k_X2_hasRow 2 C Q [] K 19 0 [some (.ref 57), some (.int a1)] [] (xS I L z) b =
  (if a1 < 0 then Q (some (.int 0)) (xS I L z) else (if a1 < 8 then (if xin a1 (8) then (if (I 58 (Int32.toNatClampNeg a1)) < 0 then Q (some (.int 0)) (xS I L z) else (if xin a1 (8) then (if (I 58 (Int32.toNatClampNeg a1)) < 5 then Q (some (.int 1)) (xS I L z) else Q (some (.int 0)) (xS I L z)) else False)) else False) else Q (some (.int 0)) (xS I L z))) := rfl
set_option maxRecDepth 100000 in
theorem b_X2_faultOfRow_0 {C : xC} {Q : xQ} {K : xK} {I : xI} {L : xL} {z : Bool × Bool × Nat} {b : Nat × Nat} {a1 : Int32} :
  xrun k_X2_faultOfRow 1 C Q [4, 15] K 2 0 [some (.ref 57), some (.int a1)] [] (xS I L z) b =
  C 35 [.int a1] (xS I L z) (fun r τ => K 4 [some (.ref 57), some (.int a1)] (r.toList ++ []) τ b) := rfl
set_option maxRecDepth 100000 in
theorem b_X2_faultOfRow_4 {C : xC} {Q : xQ} {K : xK} {I : xI} {L : xL} {z : Bool × Bool × Nat} {b : Nat × Nat} {a1 : Int32} {s0 : Int32} :
  xrun k_X2_faultOfRow 1 C Q [4, 15] K 4 4 [some (.ref 57), some (.int a1)] [.int s0] (xS I L z) b =
  (if s0 = 0 then Q (some (.int (-2 : Int32))) (xS I L z) else C 39 [.ref 57, .int a1] (xS I L z) (fun r τ => K 15 [some (.ref 57), some (.int a1)] (r.toList ++ []) τ b)) := rfl
set_option maxRecDepth 100000 in
theorem b_X2_faultOfRow_15 {C : xC} {Q : xQ} {K : xK} {I : xI} {L : xL} {z : Bool × Bool × Nat} {b : Nat × Nat} {a1 : Int32} {s0 : Int32} :
  xrun k_X2_faultOfRow 1 C Q [4, 15] K 10 15 [some (.ref 57), some (.int a1)] [.int s0] (xS I L z) b =
  (if s0 = 0 then (if xin a1 (8) then (if (I 58 (Int32.toNatClampNeg a1)) = (-1 : Int32) then Q (some (.int (-4 : Int32))) (xS I L z) else Q (some (.int (-3 : Int32))) (xS I L z)) else False) else Q (some (.int 0)) (xS I L z)) := rfl
set_option maxRecDepth 100000 in
theorem b_X2_faultOfPair_0 {C : xC} {Q : xQ} {K : xK} {I : xI} {L : xL} {z : Bool × Bool × Nat} {b : Nat × Nat} {a1 : Int32} {a2 : Int32} :
  xrun k_X2_faultOfPair 1 C Q [4, 11, 42, 70] K 2 0 [some (.ref 57), some (.int a1), some (.int a2), none, none] [] (xS I L z) b =
  C 35 [.int a1] (xS I L z) (fun r τ => K 4 [some (.ref 57), some (.int a1), some (.int a2), none, none] (r.toList ++ []) τ b) := rfl
set_option maxRecDepth 100000 in
theorem b_X2_faultOfPair_4 {C : xC} {Q : xQ} {K : xK} {I : xI} {L : xL} {z : Bool × Bool × Nat} {b : Nat × Nat} {a1 : Int32} {a2 : Int32} {s0 : Int32} :
  xrun k_X2_faultOfPair 1 C Q [4, 11, 42, 70] K 3 4 [some (.ref 57), some (.int a1), some (.int a2), none, none] [.int s0] (xS I L z) b =
  (if s0 = 0 then Q (some (.int (-2 : Int32))) (xS I L z) else C 35 [.int a2] (xS I L z) (fun r τ => K 11 [some (.ref 57), some (.int a1), some (.int a2), none, none] (r.toList ++ []) τ b)) := rfl
set_option maxRecDepth 100000 in
theorem b_X2_faultOfPair_11 {C : xC} {Q : xQ} {K : xK} {I : xI} {L : xL} {z : Bool × Bool × Nat} {b : Nat × Nat} {a1 : Int32} {a2 : Int32} {s0 : Int32} :
  xrun k_X2_faultOfPair 1 C Q [4, 11, 42, 70] K 15 11 [some (.ref 57), some (.int a1), some (.int a2), none, none] [.int s0] (xS I L z) b =
  (if s0 = 0 then Q (some (.int (-2 : Int32))) (xS I L z) else (if xin a1 (8) then (if (I 58 (Int32.toNatClampNeg a1)) = (-1 : Int32) then K 42 [some (.ref 57), some (.int a1), some (.int a2), none, none] [.int 1] (xS I L z) b else (if xin a2 (8) then (if (I 58 (Int32.toNatClampNeg a2)) = (-1 : Int32) then K 42 [some (.ref 57), some (.int a1), some (.int a2), none, none] [.int 1] (xS I L z) b else K 42 [some (.ref 57), some (.int a1), some (.int a2), none, none] [.int 0] (xS I L z) b) else False)) else False)) := rfl
set_option maxRecDepth 100000 in
theorem b_X2_faultOfPair_42 {C : xC} {Q : xQ} {K : xK} {I : xI} {L : xL} {z : Bool × Bool × Nat} {b : Nat × Nat} {a1 : Int32} {a2 : Int32} {s0 : Int32} :
  xrun k_X2_faultOfPair 1 C Q [4, 11, 42, 70] K 15 42 [some (.ref 57), some (.int a1), some (.int a2), none, none] [.int s0] (xS I L z) b =
  (if xin a1 (8) then (if (I 58 (Int32.toNatClampNeg a1)) < 10 then (if xin a2 (8) then (if (I 58 (Int32.toNatClampNeg a2)) < 10 then K 70 [some (.ref 57), some (.int a1), some (.int a2), some (.int s0), none] [.int 0] (xS I L z) b else K 70 [some (.ref 57), some (.int a1), some (.int a2), some (.int s0), none] [.int 1] (xS I L z) b) else False) else K 70 [some (.ref 57), some (.int a1), some (.int a2), some (.int s0), none] [.int 1] (xS I L z) b) else False) := rfl
set_option maxRecDepth 100000 in
theorem b_X2_faultOfPair_70 {C : xC} {Q : xQ} {K : xK} {I : xI} {L : xL} {z : Bool × Bool × Nat} {b : Nat × Nat} {a1 : Int32} {a2 : Int32} {a3 : Int32} {s0 : Int32} :
  xrun k_X2_faultOfPair 1 C Q [4, 11, 42, 70] K 19 70 [some (.ref 57), some (.int a1), some (.int a2), some (.int a3), none] [.int s0] (xS I L z) b =
  (if s0 = 0 then (if a3 = 0 then (if xin a1 (8) then (if xin a2 (8) then (if (I 58 (Int32.toNatClampNeg a1)) = (I 58 (Int32.toNatClampNeg a2)) then (if a3 = 0 then Q (some (.int 0)) (xS I L z) else Q (some (.int (-4 : Int32))) (xS I L z)) else Q (some (.int (-3 : Int32))) (xS I L z)) else False) else False) else (if a3 = 0 then Q (some (.int 0)) (xS I L z) else Q (some (.int (-4 : Int32))) (xS I L z))) else Q (some (.int (-3 : Int32))) (xS I L z)) := rfl
set_option maxRecDepth 100000 in
theorem b_X2_hasElement_0 {C : xC} {Q : xQ} {K : xK} {I : xI} {L : xL} {z : Bool × Bool × Nat} {b : Nat × Nat} {a1 : Int32} {a2 : Int32} :
  xrun k_X2_hasElement 2 C Q [5] K 3 0 [some (.ref 57), some (.int a1), some (.int a2)] [] (xS I L z) b =
  C 39 [.ref 57, .int a1] (xS I L z) (fun r τ => K 5 [some (.ref 57), some (.int a1), some (.int a2)] (r.toList ++ []) τ b) := rfl
set_option maxRecDepth 100000 in
theorem b_X2_hasElement_5 {C : xC} {Q : xQ} {K : xK} {I : xI} {L : xL} {z : Bool × Bool × Nat} {b : Nat × Nat} {a1 : Int32} {a2 : Int32} {s0 : Int32} :
  xrun k_X2_hasElement 2 C Q [5] K 15 5 [some (.ref 57), some (.int a1), some (.int a2)] [.int s0] (xS I L z) b =
  (if s0 = 0 then Q (some (.int 0)) (xS I L z) else (if a2 < 0 then Q (some (.int 0)) (xS I L z) else (if xin a1 (8) then (if a2 < (I 59 (Int32.toNatClampNeg a1)) then (if a2 < 40 then Q (some (.int 1)) (xS I L z) else Q (some (.int 0)) (xS I L z)) else Q (some (.int 0)) (xS I L z)) else False))) := rfl
set_option maxRecDepth 100000 in
theorem b_X2_hasElements_0 {C : xC} {Q : xQ} {K : xK} {I : xI} {L : xL} {z : Bool × Bool × Nat} {b : Nat × Nat} {a1 : Int32} {a2 : Int32} {a3 : Int32} :
  xrun k_X2_hasElements 2 C Q [5] K 3 0 [some (.ref 57), some (.int a1), some (.int a2), some (.int a3)] [] (xS I L z) b =
  C 39 [.ref 57, .int a1] (xS I L z) (fun r τ => K 5 [some (.ref 57), some (.int a1), some (.int a2), some (.int a3)] (r.toList ++ []) τ b) := rfl
set_option maxRecDepth 100000 in
theorem b_X2_hasElements_5 {C : xC} {Q : xQ} {K : xK} {I : xI} {L : xL} {z : Bool × Bool × Nat} {b : Nat × Nat} {a1 : Int32} {a2 : Int32} {a3 : Int32} {s0 : Int32} :
  xrun k_X2_hasElements 2 C Q [5] K 22 5 [some (.ref 57), some (.int a1), some (.int a2), some (.int a3)] [.int s0] (xS I L z) b =
  (if s0 = 0 then Q (some (.int 0)) (xS I L z) else (if a2 < 0 then Q (some (.int 0)) (xS I L z) else (if a3 < 0 then Q (some (.int 0)) (xS I L z) else (if xin a1 (8) then (if (I 59 (Int32.toNatClampNeg a1)) < a3 then Q (some (.int 0)) (xS I L z) else (if xin a1 (8) then (if ((I 59 (Int32.toNatClampNeg a1)) - a3) < a2 then Q (some (.int 0)) (xS I L z) else Q (some (.int 1)) (xS I L z)) else False)) else False)))) := rfl
set_option maxRecDepth 100000 in
theorem b_X2_putTeller_0 {C : xC} {Q : xQ} {K : xK} {I : xI} {L : xL} {z : Bool × Bool × Nat} {b : Nat × Nat} {a1 : Int32} {a2 : Int32} :
  xrun k_X2_putTeller 0 C Q [4] K 2 0 [some (.ref 57), some (.int a1), some (.int a2)] [] (xS I L z) b =
  C 35 [.int a1] (xS I L z) (fun r τ => K 4 [some (.ref 57), some (.int a1), some (.int a2)] (r.toList ++ []) τ b) := rfl
set_option maxRecDepth 100000 in
theorem b_X2_putTeller_4 {C : xC} {Q : xQ} {K : xK} {I : xI} {L : xL} {z : Bool × Bool × Nat} {b : Nat × Nat} {a1 : Int32} {a2 : Int32} {s0 : Int32} :
  xrun k_X2_putTeller 0 C Q [4] K 12 4 [some (.ref 57), some (.int a1), some (.int a2)] [.int s0] (xS I L z) b =
  (if s0 = 0 then Q none (xS I L z) else (if a2 = (-1 : Int32) then (if xin a1 (8) then Q none (xS (xw I 58 (Int32.toNatClampNeg a1) (-1 : Int32)) L z) else False) else (if xin a1 (8) then Q none (xS (xw I 58 (Int32.toNatClampNeg a1) (10 + a2)) L z) else False))) := rfl
set_option maxRecDepth 100000 in
theorem b_X2_cutTo_0 {C : xC} {Q : xQ} {K : xK} {I : xI} {L : xL} {z : Bool × Bool × Nat} {b : Nat × Nat} {a0 : Int32} {a1 : Int64} :
  xrun k_X2_cutTo 3 C Q [] K 9 0 [some (.int a0), some (.long a1), none] [] (xS I L z) b =
  (if a0 = 0 then Q (some (.long (Int32.toInt64 ((Int32.toInt8 (Int64.toInt32 a1)).toInt32)))) (xS I L z) else (if a0 = 1 then Q (some (.long (Int32.toInt64 ((Int32.toInt16 (Int64.toInt32 a1)).toInt32)))) (xS I L z) else (if a0 = 2 then Q (some (.long (Int32.toInt64 (Int64.toInt32 a1)))) (xS I L z) else (if a0 = 3 then Q (some (.long a1)) (xS I L z) else (if (if a1 < (Int64.ofNat 0) then -1 else if a1 = (Int64.ofNat 0) then 0 else 1 : Int32) = 0 then Q (some (.long (Int64.ofNat 0))) (xS I L z) else Q (some (.long (Int64.ofNat 1))) (xS I L z)))))) := rfl
set_option maxRecDepth 100000 in
theorem b_X2_elementOf_0 {C : xC} {Q : xQ} {K : xK} {I : xI} {L : xL} {z : Bool × Bool × Nat} {b : Nat × Nat} {a1 : Int32} {a2 : Int32} :
  xrun k_X2_elementOf 3 C Q [6] K 4 0 [some (.ref 57), some (.int a1), some (.int a2)] [] (xS I L z) b =
  C 42 [.ref 57, .int a1, .int a2] (xS I L z) (fun r τ => K 6 [some (.ref 57), some (.int a1), some (.int a2)] (r.toList ++ []) τ b) := rfl
set_option maxRecDepth 100000 in
theorem b_X2_elementOf_6 {C : xC} {Q : xQ} {K : xK} {I : xI} {L : xL} {z : Bool × Bool × Nat} {b : Nat × Nat} {a1 : Int32} {a2 : Int32} {s0 : Int32} :
  xrun k_X2_elementOf 3 C Q [6] K 11 6 [some (.ref 57), some (.int a1), some (.int a2)] [.int s0] (xS I L z) b =
  (if s0 = 0 then Q (some (.long (Int64.ofNat 0))) (xS I L z) else (if xin ((a1 * 40) + a2) (320) then Q (some (.long (L 60 (Int32.toNatClampNeg ((a1 * 40) + a2))))) (xS I L z) else False)) := rfl
set_option maxRecDepth 100000 in
theorem b_X2_copyElements_0 {C : xC} {Q : xQ} {K : xK} {I : xI} {L : xL} {z : Bool × Bool × Nat} {b : Nat × Nat} {a1 : Int32} {a2 : Int32} {a3 : Int32} {a4 : Int32} {a5 : Int32} :
  xrun k_X2_copyElements 0 C Q [8, 20, 49] K 5 0 [some (.ref 57), some (.int a1), some (.int a2), some (.int a3), some (.int a4), some (.int a5)] [] (xS I L z) b =
  C 43 [.ref 57, .int a1, .int a3, .int a5] (xS I L z) (fun r τ => K 8 [some (.ref 57), some (.int a1), some (.int a2), some (.int a3), some (.int a4), some (.int a5)] (r.toList ++ []) τ b) := rfl
set_option maxRecDepth 100000 in
theorem b_X2_copyElements_8 {C : xC} {Q : xQ} {K : xK} {I : xI} {L : xL} {z : Bool × Bool × Nat} {b : Nat × Nat} {a1 : Int32} {a2 : Int32} {a3 : Int32} {a4 : Int32} {a5 : Int32} {s0 : Int32} :
  xrun k_X2_copyElements 0 C Q [8, 20, 49] K 6 8 [some (.ref 57), some (.int a1), some (.int a2), some (.int a3), some (.int a4), some (.int a5)] [.int s0] (xS I L z) b =
  (if s0 = 0 then K 49 [some (.ref 57), some (.int a1), some (.int a2), some (.int a3), some (.int a4), some (.int a5)] [] (xS I L z) b else C 43 [.ref 57, .int a2, .int a4, .int a5] (xS I L z) (fun r τ => K 20 [some (.ref 57), some (.int a1), some (.int a2), some (.int a3), some (.int a4), some (.int a5)] (r.toList ++ []) τ b)) := rfl
set_option maxRecDepth 100000 in
theorem b_X2_copyElements_20 {C : xC} {Q : xQ} {K : xK} {I : xI} {L : xL} {z : Bool × Bool × Nat} {b : Nat × Nat} {a1 : Int32} {a2 : Int32} {a3 : Int32} {a4 : Int32} {a5 : Int32} {s0 : Int32} :
  xrun k_X2_copyElements 0 C Q [8, 20, 49] K 17 20 [some (.ref 57), some (.int a1), some (.int a2), some (.int a3), some (.int a4), some (.int a5)] [.int s0] (xS I L z) b =
  (if s0 = 0 then K 49 [some (.ref 57), some (.int a1), some (.int a2), some (.int a3), some (.int a4), some (.int a5)] [] (xS I L z) b else (if xcpOK a5 ((a2 * 40) + a4) ((a1 * 40) + a3) (320) (320) then K 49 [some (.ref 57), some (.int a1), some (.int a2), some (.int a3), some (.int a4), some (.int a5)] [] (xS I (xcpl L (60) (Int32.toNatClampNeg ((a1 * 40) + a3)) (60) (Int32.toNatClampNeg ((a2 * 40) + a4)) (Int32.toNatClampNeg a5)) z) b else False)) := rfl
set_option maxRecDepth 100000 in
theorem b_X2_copyElements_49 {C : xC} {Q : xQ} {K : xK} {I : xI} {L : xL} {z : Bool × Bool × Nat} {b : Nat × Nat} {a1 : Int32} {a2 : Int32} {a3 : Int32} {a4 : Int32} {a5 : Int32} :
  xrun k_X2_copyElements 0 C Q [8, 20, 49] K 1 49 [some (.ref 57), some (.int a1), some (.int a2), some (.int a3), some (.int a4), some (.int a5)] [] (xS I L z) b =
  Q none (xS I L z) := rfl
set_option maxRecDepth 100000 in
theorem b_X3_start_0 {C : xC} {Q : xQ} {K : xK} {I : xI} {L : xL} {z : Bool × Bool × Nat} {b : Nat × Nat}  :
  xrun k_X3_start 0 C Q [] K 7 0 [some (.ref 44)] [] (xS I L z) b =
  Q none (xS (xw I 44 3 ((I 44 3) + 1)) L z) := rfl
set_option maxRecDepth 100000 in
theorem b_X4_put_0 {C : xC} {Q : xQ} {K : xK} {I : xI} {L : xL} {z : Bool × Bool × Nat} {b : Nat × Nat} {a1 : Int32} :
  xrun k_X4_put 2 C Q [] K 23 0 [some (.ref 61), some (.int a1)] [] (xS I L z) b =
  (if (I 61 0) < 0 then Q (some (.int 0)) (xS I L z) else (if (I 61 0) < 250 then (if xin (I 61 0) (250) then Q (some (.int 1)) (xS (xw (xw I 62 (Int32.toNatClampNeg (I 61 0)) a1) 61 0 (((xw I 62 (Int32.toNatClampNeg (I 61 0)) a1) 61 0) + 1)) L z) else False) else Q (some (.int 0)) (xS I L z))) := rfl
set_option maxRecDepth 100000 in
theorem b_X4_byteAt_0 {C : xC} {Q : xQ} {K : xK} {I : xI} {L : xL} {z : Bool × Bool × Nat} {b : Nat × Nat} {a1 : Int32} :
  xrun k_X4_byteAt 1 C Q [] K 17 0 [some (.ref 61), some (.int a1)] [] (xS I L z) b =
  (if a1 < 0 then Q (some (.int (-1 : Int32))) (xS I L z) else (if a1 < (I 61 0) then (if a1 < 250 then (if xin a1 (250) then Q (some (.int (I 62 (Int32.toNatClampNeg a1)))) (xS I L z) else False) else Q (some (.int (-1 : Int32))) (xS I L z)) else Q (some (.int (-1 : Int32))) (xS I L z))) := rfl
set_option maxRecDepth 100000 in
theorem b_X4_isLetter_0 {C : xC} {Q : xQ} {K : xK} {I : xI} {L : xL} {z : Bool × Bool × Nat} {b : Nat × Nat} {a0 : Int32} :
  xrun k_X4_isLetter 2 C Q [] K 9 0 [some (.int a0)] [] (xS I L z) b =
  (if a0 < 97 then Q (some (.int 0)) (xS I L z) else (if 122 < a0 then Q (some (.int 0)) (xS I L z) else Q (some (.int 1)) (xS I L z))) := rfl
set_option maxRecDepth 100000 in
theorem b_X4_isDigit_0 {C : xC} {Q : xQ} {K : xK} {I : xI} {L : xL} {z : Bool × Bool × Nat} {b : Nat × Nat} {a0 : Int32} :
  xrun k_X4_isDigit 2 C Q [] K 9 0 [some (.int a0)] [] (xS I L z) b =
  (if a0 < 48 then Q (some (.int 0)) (xS I L z) else (if 57 < a0 then Q (some (.int 0)) (xS I L z) else Q (some (.int 1)) (xS I L z))) := rfl
set_option maxRecDepth 100000 in
theorem b_X4_failAt_0 {C : xC} {Q : xQ} {K : xK} {I : xI} {L : xL} {z : Bool × Bool × Nat} {b : Nat × Nat} {a1 : Int32} :
  xrun k_X4_failAt 2 C Q [] K 5 0 [some (.ref 61), some (.int a1)] [] (xS I L z) b =
  Q (some (.int 0)) (xS (xw I 61 1 a1) L z) := rfl
set_option maxRecDepth 100000 in
theorem b_X5_isKind_0 {C : xC} {Q : xQ} {K : xK} {I : xI} {L : xL} {z : Bool × Bool × Nat} {b : Nat × Nat} {a0 : Int32} :
  xrun k_X5_isKind 2 C Q [] K 9 0 [some (.int a0)] [] (xS I L z) b =
  (if a0 < 0 then Q (some (.int 0)) (xS I L z) else (if a0 < 6 then Q (some (.int 1)) (xS I L z) else Q (some (.int 0)) (xS I L z))) := rfl
set_option maxRecDepth 100000 in
theorem b_X6_hasPlace_0 {C : xC} {Q : xQ} {K : xK} {I : xI} {L : xL} {z : Bool × Bool × Nat} {b : Nat × Nat} {a1 : Int32} :
  xrun k_X6_hasPlace 2 C Q [] K 12 0 [some (.ref 10), some (.int a1)] [] (xS I L z) b =
  (if a1 < 0 then Q (some (.int 0)) (xS I L z) else (if a1 < (I 10 0) then (if a1 < 6 then Q (some (.int 1)) (xS I L z) else Q (some (.int 0)) (xS I L z)) else Q (some (.int 0)) (xS I L z))) := rfl
set_option maxRecDepth 100000 in
theorem b_X6_hasTeller_0 {C : xC} {Q : xQ} {K : xK} {I : xI} {L : xL} {z : Bool × Bool × Nat} {b : Nat × Nat} {a1 : Int32} :
  xrun k_X6_hasTeller 2 C Q [] K 12 0 [some (.ref 10), some (.int a1)] [] (xS I L z) b =
  (if a1 < 0 then Q (some (.int 0)) (xS I L z) else (if a1 < (I 10 4) then (if a1 < 4 then Q (some (.int 1)) (xS I L z) else Q (some (.int 0)) (xS I L z)) else Q (some (.int 0)) (xS I L z))) := rfl
set_option maxRecDepth 100000 in
theorem b_X6_kindOf_0 {C : xC} {Q : xQ} {K : xK} {I : xI} {L : xL} {z : Bool × Bool × Nat} {b : Nat × Nat} {a1 : Int32} :
  xrun k_X6_kindOf 1 C Q [5] K 3 0 [some (.ref 10), some (.int a1)] [] (xS I L z) b =
  C 83 [.ref 10, .int a1] (xS I L z) (fun r τ => K 5 [some (.ref 10), some (.int a1)] (r.toList ++ []) τ b) := rfl
set_option maxRecDepth 100000 in
theorem b_X6_kindOf_5 {C : xC} {Q : xQ} {K : xK} {I : xI} {L : xL} {z : Bool × Bool × Nat} {b : Nat × Nat} {a1 : Int32} {s0 : Int32} :
  xrun k_X6_kindOf 1 C Q [5] K 7 5 [some (.ref 10), some (.int a1)] [.int s0] (xS I L z) b =
  (if s0 = 0 then Q (some (.int (-1 : Int32))) (xS I L z) else (if xin a1 (4) then Q (some (.int (I 17 (Int32.toNatClampNeg a1)))) (xS I L z) else False)) := rfl
set_option maxRecDepth 100000 in
theorem b_X6_tellerNumberOf_0 {C : xC} {Q : xQ} {K : xK} {I : xI} {L : xL} {z : Bool × Bool × Nat} {b : Nat × Nat} {a1 : Int32} :
  xrun k_X6_tellerNumberOf 1 C Q [5] K 3 0 [some (.ref 10), some (.int a1)] [] (xS I L z) b =
  C 83 [.ref 10, .int a1] (xS I L z) (fun r τ => K 5 [some (.ref 10), some (.int a1)] (r.toList ++ []) τ b) := rfl
set_option maxRecDepth 100000 in
theorem b_X6_tellerNumberOf_5 {C : xC} {Q : xQ} {K : xK} {I : xI} {L : xL} {z : Bool × Bool × Nat} {b : Nat × Nat} {a1 : Int32} {s0 : Int32} :
  xrun k_X6_tellerNumberOf 1 C Q [5] K 7 5 [some (.ref 10), some (.int a1)] [.int s0] (xS I L z) b =
  (if s0 = 0 then Q (some (.int 0)) (xS I L z) else (if xin a1 (4) then Q (some (.int (I 18 (Int32.toNatClampNeg a1)))) (xS I L z) else False)) := rfl
set_option maxRecDepth 100000 in
theorem b_X6_addTeller_0 {C : xC} {Q : xQ} {K : xK} {I : xI} {L : xL} {z : Bool × Bool × Nat} {b : Nat × Nat} {a1 : Int32} {a2 : Int32} :
  xrun k_X6_addTeller 1 C Q [] K 26 0 [some (.ref 10), some (.int a1), some (.int a2), none] [] (xS I L z) b =
  (if (I 10 4) < 0 then Q (some (.int (-1 : Int32))) (xS I L z) else (if (I 10 4) < 4 then (if xin (I 10 4) (4) then (if xin (I 10 4) (4) then Q (some (.int (I 10 4))) (xS (xw (xw (xw I 17 (Int32.toNatClampNeg (I 10 4)) a1) 18 (Int32.toNatClampNeg (I 10 4)) a2) 10 4 (((xw (xw I 17 (Int32.toNatClampNeg (I 10 4)) a1) 18 (Int32.toNatClampNeg (I 10 4)) a2) 10 4) + 1)) L z) else False) else False) else Q (some (.int (-1 : Int32))) (xS I L z))) := rfl
set_option maxRecDepth 100000 in
theorem b_X6_setLaw_0 {C : xC} {Q : xQ} {K : xK} {I : xI} {L : xL} {z : Bool × Bool × Nat} {b : Nat × Nat} {a1 : Int32} :
  xrun k_X6_setLaw 0 C Q [] K 7 0 [some (.ref 10), some (.int a1)] [] (xS I L z) b =
  Q none (xS (xw (xw I 10 1 a1) 10 5 1) L z) := rfl
set_option maxRecDepth 100000 in
theorem b_X6_setNumber_0 {C : xC} {Q : xQ} {K : xK} {I : xI} {L : xL} {z : Bool × Bool × Nat} {b : Nat × Nat} {a1 : Int32} {a2 : Int32} {a3 : Int32} :
  xrun k_X6_setNumber 0 C Q [] K 22 0 [some (.ref 10), some (.int a1), some (.int a2), some (.int a3), none] [] (xS I L z) b =
  (if ((a1 * 3) + a2) < 0 then Q none (xS (xw I 10 6 1) L z) else (if ((a1 * 3) + a2) < 18 then (if xin ((a1 * 3) + a2) (18) then Q none (xS (xw (xw I 13 (Int32.toNatClampNeg ((a1 * 3) + a2)) a3) 10 6 1) L z) else False) else Q none (xS (xw I 10 6 1) L z))) := rfl
set_option maxRecDepth 100000 in
theorem b_X6_setGuest_0 {C : xC} {Q : xQ} {K : xK} {I : xI} {L : xL} {z : Bool × Bool × Nat} {b : Nat × Nat} {a1 : Int32} {a2 : Int32} {a3 : Int32} :
  xrun k_X6_setGuest 0 C Q [5] K 3 0 [some (.ref 10), some (.int a1), some (.int a2), some (.int a3)] [] (xS I L z) b =
  C 82 [.ref 10, .int a1] (xS I L z) (fun r τ => K 5 [some (.ref 10), some (.int a1), some (.int a2), some (.int a3)] (r.toList ++ []) τ b) := rfl
set_option maxRecDepth 100000 in
theorem b_X6_setGuest_5 {C : xC} {Q : xQ} {K : xK} {I : xI} {L : xL} {z : Bool × Bool × Nat} {b : Nat × Nat} {a1 : Int32} {a2 : Int32} {a3 : Int32} {s0 : Int32} :
  xrun k_X6_setGuest 0 C Q [5] K 12 5 [some (.ref 10), some (.int a1), some (.int a2), some (.int a3)] [.int s0] (xS I L z) b =
  (if s0 = 0 then Q none (xS I L z) else (if xin a1 (6) then (if xin a1 (6) then Q none (xS (xw (xw I 14 (Int32.toNatClampNeg a1) a2) 15 (Int32.toNatClampNeg a1) a3) L z) else False) else False)) := rfl
set_option maxRecDepth 100000 in
theorem b_X6_wantOf_0 {C : xC} {Q : xQ} {K : xK} {I : xI} {L : xL} {z : Bool × Bool × Nat} {b : Nat × Nat} {a1 : Int32} :
  xrun k_X6_wantOf 1 C Q [] K 13 0 [some (.ref 10), some (.int a1)] [] (xS I L z) b =
  (if a1 < 0 then Q (some (.int (-1 : Int32))) (xS I L z) else (if a1 < 6 then (if xin a1 (6) then Q (some (.int (I 14 (Int32.toNatClampNeg a1)))) (xS I L z) else False) else Q (some (.int (-1 : Int32))) (xS I L z))) := rfl
set_option maxRecDepth 100000 in
theorem b_X6_mindOf_0 {C : xC} {Q : xQ} {K : xK} {I : xI} {L : xL} {z : Bool × Bool × Nat} {b : Nat × Nat} {a1 : Int32} :
  xrun k_X6_mindOf 1 C Q [] K 13 0 [some (.ref 10), some (.int a1)] [] (xS I L z) b =
  (if a1 < 0 then Q (some (.int 0)) (xS I L z) else (if a1 < 6 then (if xin a1 (6) then Q (some (.int (I 15 (Int32.toNatClampNeg a1)))) (xS I L z) else False) else Q (some (.int 0)) (xS I L z))) := rfl
set_option maxRecDepth 100000 in
theorem b_X6_truthAt_0 {C : xC} {Q : xQ} {K : xK} {I : xI} {L : xL} {z : Bool × Bool × Nat} {b : Nat × Nat} {a1 : Int32} :
  xrun k_X6_truthAt 1 C Q [] K 13 0 [some (.ref 10), some (.int a1)] [] (xS I L z) b =
  (if a1 < 0 then Q (some (.int 0)) (xS I L z) else (if a1 < 6 then (if xin a1 (6) then Q (some (.int (I 12 (Int32.toNatClampNeg a1)))) (xS I L z) else False) else Q (some (.int 0)) (xS I L z))) := rfl
set_option maxRecDepth 100000 in
theorem b_X6_numberOf_0 {C : xC} {Q : xQ} {K : xK} {I : xI} {L : xL} {z : Bool × Bool × Nat} {b : Nat × Nat} {a1 : Int32} {a2 : Int32} :
  xrun k_X6_numberOf 1 C Q [] K 21 0 [some (.ref 10), some (.int a1), some (.int a2), none] [] (xS I L z) b =
  (if a1 = 3 then Q (some (.int a2)) (xS I L z) else (if ((a2 * 3) + a1) < 0 then Q (some (.int a2)) (xS I L z) else (if ((a2 * 3) + a1) < 18 then (if xin ((a2 * 3) + a1) (18) then Q (some (.int (I 13 (Int32.toNatClampNeg ((a2 * 3) + a1))))) (xS I L z) else False) else Q (some (.int a2)) (xS I L z)))) := rfl
set_option maxRecDepth 100000 in
theorem b_X6_numberInTruth_0 {C : xC} {Q : xQ} {K : xK} {I : xI} {L : xL} {z : Bool × Bool × Nat} {b : Nat × Nat} {a1 : Int32} {a2 : Int32} :
  xrun k_X6_numberInTruth 1 C Q [7, 10] K 5 0 [some (.ref 10), some (.int a1), some (.int a2)] [] (xS I L z) b =
  C 95 [.ref 10, .int a1] (xS I L z) (fun r τ => K 7 [some (.ref 10), some (.int a1), some (.int a2)] (r.toList ++ [.int a2, .ref 10]) τ b) := rfl
set_option maxRecDepth 100000 in
theorem b_X6_numberInTruth_7 {C : xC} {Q : xQ} {K : xK} {I : xI} {L : xL} {z : Bool × Bool × Nat} {b : Nat × Nat} {a1 : Int32} {a2 : Int32} {s1 : Int32} {s0 : Int32} :
  xrun k_X6_numberInTruth 1 C Q [7, 10] K 1 7 [some (.ref 10), some (.int a1), some (.int a2)] [.int s0, .int s1, .ref 10] (xS I L z) b =
  C 96 [.ref 10, .int s1, .int s0] (xS I L z) (fun r τ => K 10 [some (.ref 10), some (.int a1), some (.int a2)] (r.toList ++ []) τ b) := rfl
set_option maxRecDepth 100000 in
theorem b_X6_numberInTruth_10 {C : xC} {Q : xQ} {K : xK} {I : xI} {L : xL} {z : Bool × Bool × Nat} {b : Nat × Nat} {a1 : Int32} {a2 : Int32} {s0 : Int32} :
  xrun k_X6_numberInTruth 1 C Q [7, 10] K 1 10 [some (.ref 10), some (.int a1), some (.int a2)] [.int s0] (xS I L z) b =
  Q (some (.int s0)) (xS I L z) := rfl
set_option maxRecDepth 100000 in
theorem b_X6_placeOfSign_0 {C : xC} {Q : xQ} {K : xK} {I : xI} {L : xL} {z : Bool × Bool × Nat} {b : Nat × Nat} {a1 : Int32} :
  xrun k_X6_placeOfSign 1 C Q [] K 15 0 [some (.ref 10), some (.int a1)] [] (xS I L z) b =
  (if a1 < 0 then Q (some (.int (-1 : Int32))) (xS I L z) else (if a1 < 24 then (if xin a1 (24) then Q (some (.int ((I 16 (Int32.toNatClampNeg a1)) / 40))) (xS I L z) else False) else Q (some (.int (-1 : Int32))) (xS I L z))) := rfl
set_option maxRecDepth 100000 in
theorem b_X6_dropSigns_0 {C : xC} {Q : xQ} {K : xK} {I : xI} {L : xL} {z : Bool × Bool × Nat} {b : Nat × Nat}  :
  xrun k_X6_dropSigns 0 C Q [] K 7 0 [some (.ref 10)] [] (xS I L z) b =
  Q none (xS (xw (xw I 10 3 0) 10 6 1) L z) := rfl
set_option maxRecDepth 100000 in
theorem b_X6_pouredAndTurned_0 {C : xC} {Q : xQ} {K : xK} {I : xI} {L : xL} {z : Bool × Bool × Nat} {b : Nat × Nat} {a1 : Int32} {a2 : Int32} :
  xrun k_X6_pouredAndTurned 1 C Q [19] K 10 0 [some (.ref 10), some (.int a1), some (.int a2), none] [] (xS I L z) b =
  (if a1 < a2 then K 19 [some (.ref 10), some (.int a1), some (.int a2), none] [.int ((a1 - a2) + (I 10 0))] (xS I L z) b else K 19 [some (.ref 10), some (.int a1), some (.int a2), none] [.int (a1 - a2)] (xS I L z) b) := rfl
set_option maxRecDepth 100000 in
theorem b_X6_pouredAndTurned_19 {C : xC} {Q : xQ} {K : xK} {I : xI} {L : xL} {z : Bool × Bool × Nat} {b : Nat × Nat} {a1 : Int32} {a2 : Int32} {s0 : Int32} :
  xrun k_X6_pouredAndTurned 1 C Q [19] K 14 19 [some (.ref 10), some (.int a1), some (.int a2), none] [.int s0] (xS I L z) b =
  (if s0 < 0 then Q (some (.int 0)) (xS I L z) else (if s0 < 6 then (if xin s0 (6) then Q (some (.int (I 11 (Int32.toNatClampNeg s0)))) (xS I L z) else False) else Q (some (.int 0)) (xS I L z))) := rfl
set_option maxRecDepth 100000 in
theorem b_X6_draw_0 {C : xC} {Q : xQ} {K : xK} {I : xI} {L : xL} {z : Bool × Bool × Nat} {b : Nat × Nat} {a1 : Int32} :
  xrun k_X6_draw 1 C Q [] K 18 0 [some (.ref 10), some (.int a1)] [] (xS I L z) b =
  (if 0 < a1 then (if a1 = 0 then False else Q (some (.int (((Int32.toUInt32 ((xw I 10 2 (((I 10 2) * 1103515245) + 12345)) 10 2) >>> (Int32.toUInt32 16 &&& Int32.toUInt32 31)).toInt32) - ((Int32.toUInt32 ((xw I 10 2 (((I 10 2) * 1103515245) + 12345)) 10 2) >>> (Int32.toUInt32 16 &&& Int32.toUInt32 31)).toInt32) / a1 * a1))) (xS (xw I 10 2 (((I 10 2) * 1103515245) + 12345)) L z)) else Q (some (.int 0)) (xS (xw I 10 2 (((I 10 2) * 1103515245) + 12345)) L z)) := rfl
set_option maxRecDepth 100000 in
theorem b_X6_signFor_0 {C : xC} {Q : xQ} {K : xK} {I : xI} {L : xL} {z : Bool × Bool × Nat} {b : Nat × Nat} {a0 : Int32} {a1 : Int32} {a2 : Int32} :
  xrun k_X6_signFor 1 C Q [] K 10 0 [some (.int a0), some (.int a1), some (.int a2)] [] (xS I L z) b =
  Q (some (.int ((((a0 * 4) + a1) * 10) + a2))) (xS I L z) := rfl
set_option maxRecDepth 100000 in
theorem b_X7_sortAt_0 {C : xC} {Q : xQ} {K : xK} {I : xI} {L : xL} {z : Bool × Bool × Nat} {b : Nat × Nat} {a0 : Int32} {a1 : Int32} :
  xrun k_X7_sortAt 1 C Q [] K 15 0 [some (.int a0), some (.int a1)] [] (xS I L z) b =
  (if a1 < 0 then Q (some (.int 0)) (xS I L z) else (if a1 < 6 then (if xin a1 (6) then Q (some (.int ((a0 >>> ((I 2 (Int32.toNatClampNeg a1)) &&& 31)) &&& 7))) (xS I L z) else False) else Q (some (.int 0)) (xS I L z))) := rfl
set_option maxRecDepth 100000 in
theorem b_X7_putAt_0 {C : xC} {Q : xQ} {K : xK} {I : xI} {L : xL} {z : Bool × Bool × Nat} {b : Nat × Nat} {a0 : Int32} {a1 : Int32} :
  xrun k_X7_putAt 1 C Q [] K 13 0 [some (.int a0), some (.int a1)] [] (xS I L z) b =
  (if a1 < 0 then Q (some (.int 0)) (xS I L z) else (if a1 < 6 then (if xin a1 (6) then Q (some (.int (a0 <<< ((I 2 (Int32.toNatClampNeg a1)) &&& 31)))) (xS I L z) else False) else Q (some (.int 0)) (xS I L z))) := rfl
set_option maxRecDepth 100000 in
theorem b_X7_worldOf_0 {C : xC} {Q : xQ} {K : xK} {I : xI} {L : xL} {z : Bool × Bool × Nat} {b : Nat × Nat} {a1 : Int32} :
  xrun k_X7_worldOf 1 C Q [] K 17 0 [some (.ref 37), some (.int a1)] [] (xS I L z) b =
  (if a1 < 0 then Q (some (.int 0)) (xS I L z) else (if a1 < (I 37 0) then (if a1 < 720 then (if xin a1 (720) then Q (some (.int (I 38 (Int32.toNatClampNeg a1)))) (xS I L z) else False) else Q (some (.int 0)) (xS I L z)) else Q (some (.int 0)) (xS I L z))) := rfl
set_option maxRecDepth 100000 in
theorem b_X7_possibleOf_0 {C : xC} {Q : xQ} {K : xK} {I : xI} {L : xL} {z : Bool × Bool × Nat} {b : Nat × Nat} {a1 : Int32} :
  xrun k_X7_possibleOf 1 C Q [] K 17 0 [some (.ref 37), some (.int a1)] [] (xS I L z) b =
  (if a1 < 0 then Q (some (.int 0)) (xS I L z) else (if a1 < (I 37 1) then (if a1 < 720 then (if xin a1 (720) then Q (some (.int (I 39 (Int32.toNatClampNeg a1)))) (xS I L z) else False) else Q (some (.int 0)) (xS I L z)) else Q (some (.int 0)) (xS I L z))) := rfl
set_option maxRecDepth 100000 in
theorem b_X7_howManyStand_0 {C : xC} {Q : xQ} {K : xK} {I : xI} {L : xL} {z : Bool × Bool × Nat} {b : Nat × Nat} {a1 : Int32} {a2 : Int32} :
  xrun k_X7_howManyStand 1 C Q [] K 19 0 [some (.ref 37), some (.int a1), some (.int a2), none] [] (xS I L z) b =
  (if ((a1 * 8) + a2) < 0 then Q (some (.int 0)) (xS I L z) else (if ((a1 * 8) + a2) < 48 then (if xin ((a1 * 8) + a2) (48) then Q (some (.int (I 40 (Int32.toNatClampNeg ((a1 * 8) + a2))))) (xS I L z) else False) else Q (some (.int 0)) (xS I L z))) := rfl
set_option maxRecDepth 100000 in
theorem b_X8_element_0 {C : xC} {Q : xQ} {K : xK} {I : xI} {L : xL} {z : Bool × Bool × Nat} {b : Nat × Nat} {a1 : Int32} {a2 : Int32} :
  xrun k_X8_element 3 C Q [9] K 5 0 [some (.ref 9), some (.int a1), some (.int a2)] [] (xS I L z) b =
  C 48 [.ref 57, .int a1, .int a2] (xS I L z) (fun r τ => K 9 [some (.ref 9), some (.int a1), some (.int a2)] (r.toList ++ []) τ b) := rfl
set_option maxRecDepth 100000 in
theorem b_X8_element_9 {C : xC} {Q : xQ} {K : xK} {I : xI} {L : xL} {z : Bool × Bool × Nat} {b : Nat × Nat} {a1 : Int32} {a2 : Int32} {s0 : Int64} :
  xrun k_X8_element 3 C Q [9] K 1 9 [some (.ref 9), some (.int a1), some (.int a2)] [.long s0] (xS I L z) b =
  Q (some (.long s0)) (xS I L z) := rfl
set_option maxRecDepth 100000 in
theorem b_X8_holds_0 {C : xC} {Q : xQ} {K : xK} {I : xI} {L : xL} {z : Bool × Bool × Nat} {b : Nat × Nat} {a1 : Int32} :
  xrun k_X8_holds 1 C Q [8] K 4 0 [some (.ref 9), some (.int a1)] [] (xS I L z) b =
  C 38 [.ref 57, .int a1] (xS I L z) (fun r τ => K 8 [some (.ref 9), some (.int a1)] (r.toList ++ []) τ b) := rfl
set_option maxRecDepth 100000 in
theorem b_X8_holds_8 {C : xC} {Q : xQ} {K : xK} {I : xI} {L : xL} {z : Bool × Bool × Nat} {b : Nat × Nat} {a1 : Int32} {s0 : Int32} :
  xrun k_X8_holds 1 C Q [8] K 1 8 [some (.ref 9), some (.int a1)] [.int s0] (xS I L z) b =
  Q (some (.int s0)) (xS I L z) := rfl
set_option maxRecDepth 100000 in
theorem b_X8_show_0 {C : xC} {Q : xQ} {K : xK} {I : xI} {L : xL} {z : Bool × Bool × Nat} {b : Nat × Nat} {a1 : Int32} {a2 : Int32} :
  xrun k_X8_show 1 C Q [4, 20, 29, 39] K 2 0 [some (.ref 9), some (.int a1), some (.int a2)] [] (xS I L z) b =
  C 35 [.int a1] (xS I L z) (fun r τ => K 4 [some (.ref 9), some (.int a1), some (.int a2)] (r.toList ++ []) τ b) := rfl
set_option maxRecDepth 100000 in
theorem b_X8_show_4 {C : xC} {Q : xQ} {K : xK} {I : xI} {L : xL} {z : Bool × Bool × Nat} {b : Nat × Nat} {a1 : Int32} {a2 : Int32} {s0 : Int32} :
  xrun k_X8_show 1 C Q [4, 20, 29, 39] K 9 4 [some (.ref 9), some (.int a1), some (.int a2)] [.int s0] (xS I L z) b =
  (if s0 = 0 then C 177 [.ref 9, .int (-2 : Int32)] (xS I L z) (fun r τ => K 29 [some (.ref 9), some (.int a1), some (.int a2)] (r.toList ++ []) τ b) else (if a2 = (-1 : Int32) then C 45 [.ref 57, .int a1, .int a2] (xS I L z) (fun r τ => K 39 [some (.ref 9), some (.int a1), some (.int a2)] (r.toList ++ []) τ b) else C 83 [.ref 10, .int a2] (xS I L z) (fun r τ => K 20 [some (.ref 9), some (.int a1), some (.int a2)] (r.toList ++ []) τ b))) := rfl
set_option maxRecDepth 100000 in
theorem b_X8_show_20 {C : xC} {Q : xQ} {K : xK} {I : xI} {L : xL} {z : Bool × Bool × Nat} {b : Nat × Nat} {a1 : Int32} {a2 : Int32} {s0 : Int32} :
  xrun k_X8_show 1 C Q [4, 20, 29, 39] K 6 20 [some (.ref 9), some (.int a1), some (.int a2)] [.int s0] (xS I L z) b =
  (if s0 = 0 then C 177 [.ref 9, .int (-2 : Int32)] (xS I L z) (fun r τ => K 29 [some (.ref 9), some (.int a1), some (.int a2)] (r.toList ++ []) τ b) else C 45 [.ref 57, .int a1, .int a2] (xS I L z) (fun r τ => K 39 [some (.ref 9), some (.int a1), some (.int a2)] (r.toList ++ []) τ b)) := rfl
set_option maxRecDepth 100000 in
theorem b_X8_show_29 {C : xC} {Q : xQ} {K : xK} {I : xI} {L : xL} {z : Bool × Bool × Nat} {b : Nat × Nat} {a1 : Int32} {a2 : Int32} {s0 : Int32} :
  xrun k_X8_show 1 C Q [4, 20, 29, 39] K 1 29 [some (.ref 9), some (.int a1), some (.int a2)] [.int s0] (xS I L z) b =
  Q (some (.int s0)) (xS I L z) := rfl
set_option maxRecDepth 100000 in
theorem b_X8_show_39 {C : xC} {Q : xQ} {K : xK} {I : xI} {L : xL} {z : Bool × Bool × Nat} {b : Nat × Nat} {a1 : Int32} {a2 : Int32} :
  xrun k_X8_show 1 C Q [4, 20, 29, 39] K 2 39 [some (.ref 9), some (.int a1), some (.int a2)] [] (xS I L z) b =
  Q (some (.int 1)) (xS I L z) := rfl
set_option maxRecDepth 100000 in
theorem b_X8_law_0 {C : xC} {Q : xQ} {K : xK} {I : xI} {L : xL} {z : Bool × Bool × Nat} {b : Nat × Nat} {a1 : Int32} :
  xrun k_X8_law 1 C Q [15, 32] K 13 0 [some (.ref 9), some (.int a1), none] [] (xS I L z) b =
  (if a1 < 0 then C 177 [.ref 9, .int (-2 : Int32)] (xS I L z) (fun r τ => K 15 [some (.ref 9), some (.int a1), none] (r.toList ++ []) τ b) else (if 2 < a1 then C 177 [.ref 9, .int (-2 : Int32)] (xS I L z) (fun r τ => K 15 [some (.ref 9), some (.int a1), none] (r.toList ++ []) τ b) else C 89 [.ref 10, .int a1] (xS I L z) (fun r τ => K 32 [some (.ref 9), some (.int a1), some (.int (I 10 1))] (r.toList ++ []) τ b))) := rfl
set_option maxRecDepth 100000 in
theorem b_X8_law_15 {C : xC} {Q : xQ} {K : xK} {I : xI} {L : xL} {z : Bool × Bool × Nat} {b : Nat × Nat} {a1 : Int32} {s0 : Int32} :
  xrun k_X8_law 1 C Q [15, 32] K 1 15 [some (.ref 9), some (.int a1), none] [.int s0] (xS I L z) b =
  Q (some (.int s0)) (xS I L z) := rfl
set_option maxRecDepth 100000 in
theorem b_X8_law_32 {C : xC} {Q : xQ} {K : xK} {I : xI} {L : xL} {z : Bool × Bool × Nat} {b : Nat × Nat} {a1 : Int32} {a2 : Int32} :
  xrun k_X8_law 1 C Q [15, 32] K 2 32 [some (.ref 9), some (.int a1), some (.int a2)] [] (xS I L z) b =
  Q (some (.int a2)) (xS I L z) := rfl
set_option maxRecDepth 100000 in
theorem b_X8_forget_0 {C : xC} {Q : xQ} {K : xK} {I : xI} {L : xL} {z : Bool × Bool × Nat} {b : Nat × Nat}  :
  xrun k_X8_forget 1 C Q [15] K 7 0 [some (.ref 9), none] [] (xS I L z) b =
  C 101 [.ref 10] (xS I L z) (fun r τ => K 15 [some (.ref 9), some (.int (I 10 3))] (r.toList ++ []) τ b) := rfl
set_option maxRecDepth 100000 in
theorem b_X8_forget_15 {C : xC} {Q : xQ} {K : xK} {I : xI} {L : xL} {z : Bool × Bool × Nat} {b : Nat × Nat} {a1 : Int32} :
  xrun k_X8_forget 1 C Q [15] K 2 15 [some (.ref 9), some (.int a1)] [] (xS I L z) b =
  Q (some (.int a1)) (xS I L z) := rfl
set_option maxRecDepth 100000 in
theorem b_X8_feed_0 {C : xC} {Q : xQ} {K : xK} {I : xI} {L : xL} {z : Bool × Bool × Nat} {b : Nat × Nat} {a1 : Int32} :
  xrun k_X8_feed 1 C Q [17, 26, 35] K 9 0 [some (.ref 9), some (.int a1)] [] (xS I L z) b =
  (if a1 < 0 then C 177 [.ref 9, .int (-2 : Int32)] (xS I L z) (fun r τ => K 17 [some (.ref 9), some (.int a1)] (r.toList ++ []) τ b) else (if 255 < a1 then C 177 [.ref 9, .int (-2 : Int32)] (xS I L z) (fun r τ => K 17 [some (.ref 9), some (.int a1)] (r.toList ++ []) τ b) else C 56 [.ref 61, .int a1] (xS I L z) (fun r τ => K 26 [some (.ref 9), some (.int a1)] (r.toList ++ []) τ b))) := rfl
set_option maxRecDepth 100000 in
theorem b_X8_feed_17 {C : xC} {Q : xQ} {K : xK} {I : xI} {L : xL} {z : Bool × Bool × Nat} {b : Nat × Nat} {a1 : Int32} {s0 : Int32} :
  xrun k_X8_feed 1 C Q [17, 26, 35] K 1 17 [some (.ref 9), some (.int a1)] [.int s0] (xS I L z) b =
  Q (some (.int s0)) (xS I L z) := rfl
set_option maxRecDepth 100000 in
theorem b_X8_feed_26 {C : xC} {Q : xQ} {K : xK} {I : xI} {L : xL} {z : Bool × Bool × Nat} {b : Nat × Nat} {a1 : Int32} {s0 : Int32} :
  xrun k_X8_feed 1 C Q [17, 26, 35] K 5 26 [some (.ref 9), some (.int a1)] [.int s0] (xS I L z) b =
  (if s0 = 0 then C 177 [.ref 9, .int (-6 : Int32)] (xS I L z) (fun r τ => K 35 [some (.ref 9), some (.int a1)] (r.toList ++ []) τ b) else Q (some (.int (I 61 0))) (xS I L z)) := rfl
set_option maxRecDepth 100000 in
theorem b_X8_feed_35 {C : xC} {Q : xQ} {K : xK} {I : xI} {L : xL} {z : Bool × Bool × Nat} {b : Nat × Nat} {a1 : Int32} {s0 : Int32} :
  xrun k_X8_feed 1 C Q [17, 26, 35] K 1 35 [some (.ref 9), some (.int a1)] [.int s0] (xS I L z) b =
  Q (some (.int s0)) (xS I L z) := rfl
set_option maxRecDepth 100000 in
theorem b_X8_wipe_0 {C : xC} {Q : xQ} {K : xK} {I : xI} {L : xL} {z : Bool × Bool × Nat} {b : Nat × Nat}  :
  xrun k_X8_wipe 1 C Q [] K 10 0 [some (.ref 9), none] [] (xS I L z) b =
  Q (some (.int (I 61 0))) (xS (xw I 61 0 0) L z) := rfl
set_option maxRecDepth 100000 in
theorem b_X8_stands_0 {C : xC} {Q : xQ} {K : xK} {I : xI} {L : xL} {z : Bool × Bool × Nat} {b : Nat × Nat} {a1 : Int32} :
  xrun k_X8_stands 1 C Q [8, 17, 26] K 4 0 [some (.ref 9), some (.int a1)] [] (xS I L z) b =
  C 82 [.ref 10, .int a1] (xS I L z) (fun r τ => K 8 [some (.ref 9), some (.int a1)] (r.toList ++ []) τ b) := rfl
set_option maxRecDepth 100000 in
theorem b_X8_stands_8 {C : xC} {Q : xQ} {K : xK} {I : xI} {L : xL} {z : Bool × Bool × Nat} {b : Nat × Nat} {a1 : Int32} {s0 : Int32} :
  xrun k_X8_stands 1 C Q [8, 17, 26] K 5 8 [some (.ref 9), some (.int a1)] [.int s0] (xS I L z) b =
  (if s0 = 0 then C 177 [.ref 9, .int (-2 : Int32)] (xS I L z) (fun r τ => K 17 [some (.ref 9), some (.int a1)] (r.toList ++ []) τ b) else C 95 [.ref 10, .int a1] (xS I L z) (fun r τ => K 26 [some (.ref 9), some (.int a1)] (r.toList ++ []) τ b)) := rfl
set_option maxRecDepth 100000 in
theorem b_X8_stands_17 {C : xC} {Q : xQ} {K : xK} {I : xI} {L : xL} {z : Bool × Bool × Nat} {b : Nat × Nat} {a1 : Int32} {s0 : Int32} :
  xrun k_X8_stands 1 C Q [8, 17, 26] K 1 17 [some (.ref 9), some (.int a1)] [.int s0] (xS I L z) b =
  Q (some (.int s0)) (xS I L z) := rfl
set_option maxRecDepth 100000 in
theorem b_X8_stands_26 {C : xC} {Q : xQ} {K : xK} {I : xI} {L : xL} {z : Bool × Bool × Nat} {b : Nat × Nat} {a1 : Int32} {s0 : Int32} :
  xrun k_X8_stands 1 C Q [8, 17, 26] K 1 26 [some (.ref 9), some (.int a1)] [.int s0] (xS I L z) b =
  Q (some (.int s0)) (xS I L z) := rfl
set_option maxRecDepth 100000 in
theorem b_X8_seed_0 {C : xC} {Q : xQ} {K : xK} {I : xI} {L : xL} {z : Bool × Bool × Nat} {b : Nat × Nat} {a1 : Int32} :
  xrun k_X8_seed 1 C Q [] K 10 0 [some (.ref 9), some (.int a1), none] [] (xS I L z) b =
  Q (some (.int (I 10 2))) (xS (xw I 10 2 a1) L z) := rfl
set_option maxRecDepth 100000 in
theorem b_X8_isSort_0 {C : xC} {Q : xQ} {K : xK} {I : xI} {L : xL} {z : Bool × Bool × Nat} {b : Nat × Nat} {a0 : Int32} :
  xrun k_X8_isSort 2 C Q [] K 8 0 [some (.int a0)] [] (xS I L z) b =
  (if a0 < 0 then Q (some (.int 0)) (xS I L z) else (if a0 < 6 then Q (some (.int 1)) (xS I L z) else Q (some (.int 0)) (xS I L z))) := rfl
set_option maxRecDepth 100000 in
theorem b_X8_isNumber_0 {C : xC} {Q : xQ} {K : xK} {I : xI} {L : xL} {z : Bool × Bool × Nat} {b : Nat × Nat} {a0 : Int32} :
  xrun k_X8_isNumber 2 C Q [] K 8 0 [some (.int a0)] [] (xS I L z) b =
  (if a0 < 0 then Q (some (.int 0)) (xS I L z) else (if 9 < a0 then Q (some (.int 0)) (xS I L z) else Q (some (.int 1)) (xS I L z))) := rfl
set_option maxRecDepth 100000 in
theorem b_X8_isLook_0 {C : xC} {Q : xQ} {K : xK} {I : xI} {L : xL} {z : Bool × Bool × Nat} {b : Nat × Nat} {a0 : Int32} :
  xrun k_X8_isLook 2 C Q [] K 8 0 [some (.int a0)] [] (xS I L z) b =
  (if a0 < 0 then Q (some (.int 0)) (xS I L z) else (if a0 < 3 then Q (some (.int 1)) (xS I L z) else Q (some (.int 0)) (xS I L z))) := rfl
set_option maxRecDepth 100000 in
theorem b_X8_isSignKind_0 {C : xC} {Q : xQ} {K : xK} {I : xI} {L : xL} {z : Bool × Bool × Nat} {b : Nat × Nat} {a0 : Int32} :
  xrun k_X8_isSignKind 2 C Q [] K 8 0 [some (.int a0)] [] (xS I L z) b =
  (if a0 < 0 then Q (some (.int 0)) (xS I L z) else (if a0 < 4 then Q (some (.int 1)) (xS I L z) else Q (some (.int 0)) (xS I L z))) := rfl
set_option maxRecDepth 100000 in
theorem b_X8_isEither_0 {C : xC} {Q : xQ} {K : xK} {I : xI} {L : xL} {z : Bool × Bool × Nat} {b : Nat × Nat} {a0 : Int32} :
  xrun k_X8_isEither 2 C Q [] K 8 0 [some (.int a0)] [] (xS I L z) b =
  (if a0 = 0 then Q (some (.int 1)) (xS I L z) else (if a0 = 1 then Q (some (.int 1)) (xS I L z) else Q (some (.int 0)) (xS I L z))) := rfl
set_option maxRecDepth 100000 in
theorem b_X8_canBeSeen_0 {C : xC} {Q : xQ} {K : xK} {I : xI} {L : xL} {z : Bool × Bool × Nat} {b : Nat × Nat} {a0 : Int32} {a1 : Int32} :
  xrun k_X8_canBeSeen 2 C Q [9, 16, 23] K 5 0 [some (.int a0), some (.int a1)] [] (xS I L z) b =
  (if a0 = 3 then C 180 [.int a1] (xS I L z) (fun r τ => K 9 [some (.int a0), some (.int a1)] (r.toList ++ []) τ b) else C 182 [.int a0] (xS I L z) (fun r τ => K 16 [some (.int a0), some (.int a1)] (r.toList ++ []) τ b)) := rfl
set_option maxRecDepth 100000 in
theorem b_X8_canBeSeen_9 {C : xC} {Q : xQ} {K : xK} {I : xI} {L : xL} {z : Bool × Bool × Nat} {b : Nat × Nat} {a0 : Int32} {a1 : Int32} {s0 : Int32} :
  xrun k_X8_canBeSeen 2 C Q [9, 16, 23] K 2 9 [some (.int a0), some (.int a1)] [.int s0] (xS I L z) b =
  (bif xbool s0 then Q (some (.int s0)) (xS I L z) else False) := rfl
set_option maxRecDepth 100000 in
theorem b_X8_canBeSeen_16 {C : xC} {Q : xQ} {K : xK} {I : xI} {L : xL} {z : Bool × Bool × Nat} {b : Nat × Nat} {a0 : Int32} {a1 : Int32} {s0 : Int32} :
  xrun k_X8_canBeSeen 2 C Q [9, 16, 23] K 3 16 [some (.int a0), some (.int a1)] [.int s0] (xS I L z) b =
  (if s0 = 0 then Q (some (.int 0)) (xS I L z) else C 181 [.int a1] (xS I L z) (fun r τ => K 23 [some (.int a0), some (.int a1)] (r.toList ++ []) τ b)) := rfl
set_option maxRecDepth 100000 in
theorem b_X8_canBeSeen_23 {C : xC} {Q : xQ} {K : xK} {I : xI} {L : xL} {z : Bool × Bool × Nat} {b : Nat × Nat} {a0 : Int32} {a1 : Int32} {s0 : Int32} :
  xrun k_X8_canBeSeen 2 C Q [9, 16, 23] K 4 23 [some (.int a0), some (.int a1)] [.int s0] (xS I L z) b =
  (if s0 = 0 then Q (some (.int 0)) (xS I L z) else Q (some (.int 1)) (xS I L z)) := rfl
set_option maxRecDepth 100000 in
theorem b_X9_refuse_0 {C : xC} {Q : xQ} {K : xK} {I : xI} {L : xL} {z : Bool × Bool × Nat} {b : Nat × Nat} {a1 : Int32} :
  xrun k_X9_refuse 1 C Q [] K 11 0 [some (.ref 66), some (.int a1)] [] (xS I L z) b =
  (if xin (-a1) (8) then (if xin (-a1) (8) then Q (some (.int a1)) (xS (xw I 82 (Int32.toNatClampNeg (-a1)) ((I 82 (Int32.toNatClampNeg (-a1))) + 1)) L z) else False) else False) := rfl
set_option maxRecDepth 100000 in
theorem b_X9_in_0 {C : xC} {Q : xQ} {K : xK} {I : xI} {L : xL} {z : Bool × Bool × Nat} {b : Nat × Nat} {a0 : Int64} {a2 : Int64} {a4 : Int64} :
  xrun k_X9_in 2 C Q [] K 11 0 [some (.long a0), none, some (.long a2), none, some (.long a4), none] [] (xS I L z) b =
  (if (if a0 < a2 then -1 else if a0 = a2 then 0 else 1 : Int32) < 0 then Q (some (.int 0)) (xS I L z) else (if 0 < (if a0 < a4 then -1 else if a0 = a4 then 0 else 1 : Int32) then Q (some (.int 0)) (xS I L z) else Q (some (.int 1)) (xS I L z))) := rfl
set_option maxRecDepth 100000 in
theorem b_X9_isPlace_0 {C : xC} {Q : xQ} {K : xK} {I : xI} {L : xL} {z : Bool × Bool × Nat} {b : Nat × Nat} {a1 : Int64} :
  xrun k_X9_isPlace 2 C Q [12] K 8 0 [some (.ref 66), some (.long a1), none] [] (xS I L z) b =
  C 188 [.long a1, .long (Int64.ofNat 0), .long (Int32.toInt64 ((I 66 9) - 1))] (xS I L z) (fun r τ => K 12 [some (.ref 66), some (.long a1), none] (r.toList ++ []) τ b) := rfl
set_option maxRecDepth 100000 in
theorem b_X9_isPlace_12 {C : xC} {Q : xQ} {K : xK} {I : xI} {L : xL} {z : Bool × Bool × Nat} {b : Nat × Nat} {a1 : Int64} {s0 : Int32} :
  xrun k_X9_isPlace 2 C Q [12] K 1 12 [some (.ref 66), some (.long a1), none] [.int s0] (xS I L z) b =
  (bif xbool s0 then Q (some (.int s0)) (xS I L z) else False) := rfl
set_option maxRecDepth 100000 in
theorem b_X9_isTeller_0 {C : xC} {Q : xQ} {K : xK} {I : xI} {L : xL} {z : Bool × Bool × Nat} {b : Nat × Nat} {a1 : Int32} :
  xrun k_X9_isTeller 2 C Q [13] K 9 0 [some (.ref 66), some (.int a1)] [] (xS I L z) b =
  C 188 [.long (Int32.toInt64 a1), .long (Int64.ofNat 0), .long (Int32.toInt64 ((I 66 17) - 1))] (xS I L z) (fun r τ => K 13 [some (.ref 66), some (.int a1)] (r.toList ++ []) τ b) := rfl
set_option maxRecDepth 100000 in
theorem b_X9_isTeller_13 {C : xC} {Q : xQ} {K : xK} {I : xI} {L : xL} {z : Bool × Bool × Nat} {b : Nat × Nat} {a1 : Int32} {s0 : Int32} :
  xrun k_X9_isTeller 2 C Q [13] K 1 13 [some (.ref 66), some (.int a1)] [.int s0] (xS I L z) b =
  (bif xbool s0 then Q (some (.int s0)) (xS I L z) else False) := rfl
set_option maxRecDepth 100000 in
theorem b_X9_has_0 {C : xC} {Q : xQ} {K : xK} {I : xI} {L : xL} {z : Bool × Bool × Nat} {b : Nat × Nat} {a0 : Int32} {a1 : Int32} :
  xrun k_X9_has 2 C Q [] K 9 0 [some (.int a0), some (.int a1)] [] (xS I L z) b =
  (if ((a0 >>> (a1 &&& 31)) &&& 1) = 0 then Q (some (.int 0)) (xS I L z) else Q (some (.int 1)) (xS I L z)) := rfl
set_option maxRecDepth 100000 in
theorem b_X9_fit_0 {C : xC} {Q : xQ} {K : xK} {I : xI} {L : xL} {z : Bool × Bool × Nat} {b : Nat × Nat} {a0 : Int32} {a1 : Int64} :
  xrun k_X9_fit 3 C Q [] K 9 0 [some (.int a0), some (.long a1), none] [] (xS I L z) b =
  (if a0 = 0 then Q (some (.long (Int32.toInt64 ((Int32.toInt8 (Int64.toInt32 a1)).toInt32)))) (xS I L z) else (if a0 = 1 then Q (some (.long (Int32.toInt64 ((Int32.toInt16 (Int64.toInt32 a1)).toInt32)))) (xS I L z) else (if a0 = 2 then Q (some (.long (Int32.toInt64 (Int64.toInt32 a1)))) (xS I L z) else (if a0 = 3 then Q (some (.long a1)) (xS I L z) else (if (if a1 < (Int64.ofNat 0) then -1 else if a1 = (Int64.ofNat 0) then 0 else 1 : Int32) = 0 then Q (some (.long (Int64.ofNat 0))) (xS I L z) else Q (some (.long (Int64.ofNat 1))) (xS I L z)))))) := rfl
set_option maxRecDepth 100000 in
theorem b_X9_noRow_0 {C : xC} {Q : xQ} {K : xK} {I : xI} {L : xL} {z : Bool × Bool × Nat} {b : Nat × Nat} {a1 : Int32} :
  xrun k_X9_noRow 1 C Q [9, 18, 35, 51] K 5 0 [some (.ref 66), some (.int a1)] [] (xS I L z) b =
  C 188 [.long (Int32.toInt64 a1), .long (Int64.ofNat 0), .long (Int64.ofNat 7)] (xS I L z) (fun r τ => K 9 [some (.ref 66), some (.int a1)] (r.toList ++ []) τ b) := rfl
set_option maxRecDepth 100000 in
theorem b_X9_noRow_9 {C : xC} {Q : xQ} {K : xK} {I : xI} {L : xL} {z : Bool × Bool × Nat} {b : Nat × Nat} {a1 : Int32} {s0 : Int32} :
  xrun k_X9_noRow 1 C Q [9, 18, 35, 51] K 15 9 [some (.ref 66), some (.int a1)] [.int s0] (xS I L z) b =
  (if s0 = 0 then C 187 [.ref 66, .int (-2 : Int32)] (xS I L z) (fun r τ => K 18 [some (.ref 66), some (.int a1)] (r.toList ++ []) τ b) else (if xin a1 (8) then (if (I 67 (Int32.toNatClampNeg a1)) = 2 then C 187 [.ref 66, .int (-3 : Int32)] (xS I L z) (fun r τ => K 35 [some (.ref 66), some (.int a1)] (r.toList ++ []) τ b) else (if xin a1 (8) then (if (I 67 (Int32.toNatClampNeg a1)) = 0 then C 187 [.ref 66, .int (-4 : Int32)] (xS I L z) (fun r τ => K 51 [some (.ref 66), some (.int a1)] (r.toList ++ []) τ b) else Q (some (.int 0)) (xS I L z)) else False)) else False)) := rfl
set_option maxRecDepth 100000 in
theorem b_X9_noRow_18 {C : xC} {Q : xQ} {K : xK} {I : xI} {L : xL} {z : Bool × Bool × Nat} {b : Nat × Nat} {a1 : Int32} {s0 : Int32} :
  xrun k_X9_noRow 1 C Q [9, 18, 35, 51] K 1 18 [some (.ref 66), some (.int a1)] [.int s0] (xS I L z) b =
  Q (some (.int s0)) (xS I L z) := rfl
set_option maxRecDepth 100000 in
theorem b_X9_noRow_35 {C : xC} {Q : xQ} {K : xK} {I : xI} {L : xL} {z : Bool × Bool × Nat} {b : Nat × Nat} {a1 : Int32} {s0 : Int32} :
  xrun k_X9_noRow 1 C Q [9, 18, 35, 51] K 1 35 [some (.ref 66), some (.int a1)] [.int s0] (xS I L z) b =
  Q (some (.int s0)) (xS I L z) := rfl
set_option maxRecDepth 100000 in
theorem b_X9_noRow_51 {C : xC} {Q : xQ} {K : xK} {I : xI} {L : xL} {z : Bool × Bool × Nat} {b : Nat × Nat} {a1 : Int32} {s0 : Int32} :
  xrun k_X9_noRow 1 C Q [9, 18, 35, 51] K 2 51 [some (.ref 66), some (.int a1)] [.int s0] (xS I L z) b =
  Q (some (.int s0)) (xS I L z) := rfl
set_option maxRecDepth 100000 in
theorem b_X9_set_0 {C : xC} {Q : xQ} {K : xK} {I : xI} {L : xL} {z : Bool × Bool × Nat} {b : Nat × Nat} {a1 : Int32} {a2 : Int32} {a3 : Int64} :
  xrun k_X9_set 1 C Q [5, 30, 39, 57] K 3 0 [some (.ref 66), some (.int a1), some (.int a2), some (.long a3), none, none] [] (xS I L z) b =
  C 195 [.ref 66, .int a1] (xS I L z) (fun r τ => K 5 [some (.ref 66), some (.int a1), some (.int a2), some (.long a3), none, none] (r.toList ++ []) τ b) := rfl
set_option maxRecDepth 100000 in
theorem b_X9_set_5 {C : xC} {Q : xQ} {K : xK} {I : xI} {L : xL} {z : Bool × Bool × Nat} {b : Nat × Nat} {a1 : Int32} {a2 : Int32} {a3 : Int64} {s0 : Int32} :
  xrun k_X9_set 1 C Q [5, 30, 39, 57] K 14 5 [some (.ref 66), some (.int a1), some (.int a2), some (.long a3), none, none] [.int s0] (xS I L z) b =
  (if s0 = 0 then (if xin a1 (8) then C 188 [.long (Int32.toInt64 a2), .long (Int64.ofNat 0), .long (Int32.toInt64 ((I 69 (Int32.toNatClampNeg a1)) - 1))] (xS I L z) (fun r τ => K 30 [some (.ref 66), some (.int a1), some (.int a2), some (.long a3), none, some (.int s0)] (r.toList ++ []) τ b) else False) else Q (some (.int s0)) (xS I L z)) := rfl
set_option maxRecDepth 100000 in
theorem b_X9_set_30 {C : xC} {Q : xQ} {K : xK} {I : xI} {L : xL} {z : Bool × Bool × Nat} {b : Nat × Nat} {a1 : Int32} {a2 : Int32} {a3 : Int64} {a5 : Int32} {s0 : Int32} :
  xrun k_X9_set 1 C Q [5, 30, 39, 57] K 12 30 [some (.ref 66), some (.int a1), some (.int a2), some (.long a3), none, some (.int a5)] [.int s0] (xS I L z) b =
  (if s0 = 0 then C 187 [.ref 66, .int (-2 : Int32)] (xS I L z) (fun r τ => K 39 [some (.ref 66), some (.int a1), some (.int a2), some (.long a3), none, some (.int a5)] (r.toList ++ []) τ b) else (if xin a1 (8) then (if xin a1 (8) then C 194 [.int (I 68 (Int32.toNatClampNeg a1)), .long a3] (xS I L z) (fun r τ => K 57 [some (.ref 66), some (.int a1), some (.int a2), some (.long a3), none, some (.int a5)] (r.toList ++ [.int a2, .ref (70 + 1 + Int32.toNatClampNeg a1)]) τ b) else False) else False)) := rfl
set_option maxRecDepth 100000 in
theorem b_X9_set_39 {C : xC} {Q : xQ} {K : xK} {I : xI} {L : xL} {z : Bool × Bool × Nat} {b : Nat × Nat} {a1 : Int32} {a2 : Int32} {a3 : Int64} {a5 : Int32} {s0 : Int32} :
  xrun k_X9_set 1 C Q [5, 30, 39, 57] K 1 39 [some (.ref 66), some (.int a1), some (.int a2), some (.long a3), none, some (.int a5)] [.int s0] (xS I L z) b =
  Q (some (.int s0)) (xS I L z) := rfl
set_option maxRecDepth 100000 in
theorem b_X9_set_57 {C : xC} {Q : xQ} {K : xK} {I : xI} {L : xL} {z : Bool × Bool × Nat} {b : Nat × Nat} {a1 : Int32} {a2 : Int32} {a3 : Int64} {a5 : Int32} {s2 : Nat} {s1 : Int32} {s0 : Int64} :
  xrun k_X9_set 1 C Q [5, 30, 39, 57] K 3 57 [some (.ref 66), some (.int a1), some (.int a2), some (.long a3), none, some (.int a5)] [.long s0, .int s1, .ref s2] (xS I L z) b =
  (bif xis (xS I L z) s2 21 && Nat.blt 8 s2 then (if xin s1 (xlen z.2.2 (s2)) then Q (some (.int 1)) (xS I (xwl L s2 (Int32.toNatClampNeg s1) s0) z) else False) else False) := rfl
set_option maxRecDepth 100000 in
theorem b_X9_element_0 {C : xC} {Q : xQ} {K : xK} {I : xI} {L : xL} {z : Bool × Bool × Nat} {b : Nat × Nat} {a1 : Int32} {a2 : Int32} :
  xrun k_X9_element 3 C Q [9, 37] K 5 0 [some (.ref 66), some (.int a1), some (.int a2)] [] (xS I L z) b =
  C 188 [.long (Int32.toInt64 a1), .long (Int64.ofNat 0), .long (Int64.ofNat 7)] (xS I L z) (fun r τ => K 9 [some (.ref 66), some (.int a1), some (.int a2)] (r.toList ++ []) τ b) := rfl
set_option maxRecDepth 100000 in
theorem b_X9_element_9 {C : xC} {Q : xQ} {K : xK} {I : xI} {L : xL} {z : Bool × Bool × Nat} {b : Nat × Nat} {a1 : Int32} {a2 : Int32} {s0 : Int32} :
  xrun k_X9_element 3 C Q [9, 37] K 18 9 [some (.ref 66), some (.int a1), some (.int a2)] [.int s0] (xS I L z) b =
  (if s0 = 0 then Q (some (.long (Int64.ofNat 0))) (xS I L z) else (if xin a1 (8) then (if (I 67 (Int32.toNatClampNeg a1)) = 1 then (if xin a1 (8) then C 188 [.long (Int32.toInt64 a2), .long (Int64.ofNat 0), .long (Int32.toInt64 ((I 69 (Int32.toNatClampNeg a1)) - 1))] (xS I L z) (fun r τ => K 37 [some (.ref 66), some (.int a1), some (.int a2)] (r.toList ++ []) τ b) else False) else Q (some (.long (Int64.ofNat 0))) (xS I L z)) else False)) := rfl
set_option maxRecDepth 100000 in
theorem b_X9_element_37 {C : xC} {Q : xQ} {K : xK} {I : xI} {L : xL} {z : Bool × Bool × Nat} {b : Nat × Nat} {a1 : Int32} {a2 : Int32} {s0 : Int32} :
  xrun k_X9_element 3 C Q [9, 37] K 9 37 [some (.ref 66), some (.int a1), some (.int a2)] [.int s0] (xS I L z) b =
  (if s0 = 0 then Q (some (.long (Int64.ofNat 0))) (xS I L z) else (if xin a1 (8) then (bif xis (xS I L z) (70 + 1 + Int32.toNatClampNeg a1) 21 then (if xin a2 (xlen z.2.2 (70 + 1 + Int32.toNatClampNeg a1)) then Q (some (.long (L (70 + 1 + Int32.toNatClampNeg a1) (Int32.toNatClampNeg a2)))) (xS I L z) else False) else False) else False)) := rfl
set_option maxRecDepth 100000 in
theorem b_X9_holds_0 {C : xC} {Q : xQ} {K : xK} {I : xI} {L : xL} {z : Bool × Bool × Nat} {b : Nat × Nat} {a1 : Int32} :
  xrun k_X9_holds 1 C Q [9] K 5 0 [some (.ref 66), some (.int a1)] [] (xS I L z) b =
  C 188 [.long (Int32.toInt64 a1), .long (Int64.ofNat 0), .long (Int64.ofNat 7)] (xS I L z) (fun r τ => K 9 [some (.ref 66), some (.int a1)] (r.toList ++ []) τ b) := rfl
set_option maxRecDepth 100000 in
theorem b_X9_holds_9 {C : xC} {Q : xQ} {K : xK} {I : xI} {L : xL} {z : Bool × Bool × Nat} {b : Nat × Nat} {a1 : Int32} {s0 : Int32} :
  xrun k_X9_holds 1 C Q [9] K 19 9 [some (.ref 66), some (.int a1)] [.int s0] (xS I L z) b =
  (if s0 = 0 then Q (some (.int (-1 : Int32))) (xS I L z) else (if xin a1 (8) then (if (I 67 (Int32.toNatClampNeg a1)) = 0 then Q (some (.int (-1 : Int32))) (xS I L z) else (if xin a1 (8) then (if (I 67 (Int32.toNatClampNeg a1)) = 1 then (if xin a1 (8) then Q (some (.int (I 68 (Int32.toNatClampNeg a1)))) (xS I L z) else False) else (if xin a1 (8) then Q (some (.int (10 + (I 80 (Int32.toNatClampNeg a1))))) (xS I L z) else False)) else False)) else False)) := rfl
set_option maxRecDepth 100000 in
theorem b_X9_show_0 {C : xC} {Q : xQ} {K : xK} {I : xI} {L : xL} {z : Bool × Bool × Nat} {b : Nat × Nat} {a1 : Int32} {a2 : Int32} :
  xrun k_X9_show 1 C Q [9, 22, 31, 32] K 5 0 [some (.ref 66), some (.int a1), some (.int a2)] [] (xS I L z) b =
  C 188 [.long (Int32.toInt64 a1), .long (Int64.ofNat 0), .long (Int64.ofNat 7)] (xS I L z) (fun r τ => K 9 [some (.ref 66), some (.int a1), some (.int a2)] (r.toList ++ []) τ b) := rfl
set_option maxRecDepth 100000 in
theorem b_X9_show_9 {C : xC} {Q : xQ} {K : xK} {I : xI} {L : xL} {z : Bool × Bool × Nat} {b : Nat × Nat} {a1 : Int32} {a2 : Int32} {s0 : Int32} :
  xrun k_X9_show 1 C Q [9, 22, 31, 32] K 7 9 [some (.ref 66), some (.int a1), some (.int a2)] [.int s0] (xS I L z) b =
  (if s0 = 0 then C 187 [.ref 66, .int (-2 : Int32)] (xS I L z) (fun r τ => K 31 [some (.ref 66), some (.int a1), some (.int a2)] (r.toList ++ []) τ b) else (if a2 = (-1 : Int32) then K 32 [some (.ref 66), some (.int a1), some (.int a2)] [] (xS I L z) b else C 190 [.ref 66, .int a2] (xS I L z) (fun r τ => K 22 [some (.ref 66), some (.int a1), some (.int a2)] (r.toList ++ []) τ b))) := rfl
set_option maxRecDepth 100000 in
theorem b_X9_show_22 {C : xC} {Q : xQ} {K : xK} {I : xI} {L : xL} {z : Bool × Bool × Nat} {b : Nat × Nat} {a1 : Int32} {a2 : Int32} {s0 : Int32} :
  xrun k_X9_show 1 C Q [9, 22, 31, 32] K 4 22 [some (.ref 66), some (.int a1), some (.int a2)] [.int s0] (xS I L z) b =
  (if s0 = 0 then C 187 [.ref 66, .int (-2 : Int32)] (xS I L z) (fun r τ => K 31 [some (.ref 66), some (.int a1), some (.int a2)] (r.toList ++ []) τ b) else K 32 [some (.ref 66), some (.int a1), some (.int a2)] [] (xS I L z) b) := rfl
set_option maxRecDepth 100000 in
theorem b_X9_show_31 {C : xC} {Q : xQ} {K : xK} {I : xI} {L : xL} {z : Bool × Bool × Nat} {b : Nat × Nat} {a1 : Int32} {a2 : Int32} {s0 : Int32} :
  xrun k_X9_show 1 C Q [9, 22, 31, 32] K 1 31 [some (.ref 66), some (.int a1), some (.int a2)] [.int s0] (xS I L z) b =
  Q (some (.int s0)) (xS I L z) := rfl
set_option maxRecDepth 100000 in
theorem b_X9_show_32 {C : xC} {Q : xQ} {K : xK} {I : xI} {L : xL} {z : Bool × Bool × Nat} {b : Nat × Nat} {a1 : Int32} {a2 : Int32} :
  xrun k_X9_show 1 C Q [9, 22, 31, 32] K 16 32 [some (.ref 66), some (.int a1), some (.int a2)] [] (xS I L z) b =
  (if a2 = (-1 : Int32) then (if xin a1 (8) then (if xin a1 (8) then Q (some (.int 1)) (xS (xw (xw I 67 (Int32.toNatClampNeg a1) 0) 80 (Int32.toNatClampNeg a1) a2) L z) else False) else False) else (if xin a1 (8) then (if xin a1 (8) then Q (some (.int 1)) (xS (xw (xw I 67 (Int32.toNatClampNeg a1) 2) 80 (Int32.toNatClampNeg a1) a2) L z) else False) else False)) := rfl
set_option maxRecDepth 100000 in
theorem b_X9_isUnder_0 {C : xC} {Q : xQ} {K : xK} {I : xI} {L : xL} {z : Bool × Bool × Nat} {b : Nat × Nat} {a0 : Int32} {a1 : Int32} :
  xrun k_X9_isUnder 2 C Q [] K 20 0 [some (.int a0), some (.int a1)] [] (xS I L z) b =
  (if a1 = 0 then Q (some (.int 1)) (xS I L z) else (if a0 = a1 then Q (some (.int 1)) (xS I L z) else (if a1 = 2 then (if a0 = 3 then Q (some (.int 1)) (xS I L z) else (if a0 = 5 then Q (some (.int 1)) (xS I L z) else (if a0 = 4 then Q (some (.int 1)) (xS I L z) else Q (some (.int 0)) (xS I L z)))) else (if a1 = 3 then (if a0 = 4 then Q (some (.int 1)) (xS I L z) else Q (some (.int 0)) (xS I L z)) else Q (some (.int 0)) (xS I L z))))) := rfl
set_option maxRecDepth 100000 in
theorem b_X9_noCups_0 {C : xC} {Q : xQ} {K : xK} {I : xI} {L : xL} {z : Bool × Bool × Nat} {b : Nat × Nat} {a1 : Int32} :
  xrun k_X9_noCups 1 C Q [5, 31] K 3 0 [some (.ref 66), some (.int a1), none] [] (xS I L z) b =
  C 195 [.ref 66, .int a1] (xS I L z) (fun r τ => K 5 [some (.ref 66), some (.int a1), none] (r.toList ++ []) τ b) := rfl
set_option maxRecDepth 100000 in
theorem b_X9_noCups_5 {C : xC} {Q : xQ} {K : xK} {I : xI} {L : xL} {z : Bool × Bool × Nat} {b : Nat × Nat} {a1 : Int32} {s0 : Int32} :
  xrun k_X9_noCups 1 C Q [5, 31] K 13 5 [some (.ref 66), some (.int a1), none] [.int s0] (xS I L z) b =
  (if s0 = 0 then (if xin a1 (8) then (if (I 69 (Int32.toNatClampNeg a1)) < (I 66 9) then C 187 [.ref 66, .int (-2 : Int32)] (xS I L z) (fun r τ => K 31 [some (.ref 66), some (.int a1), some (.int s0)] (r.toList ++ []) τ b) else Q (some (.int 0)) (xS I L z)) else False) else Q (some (.int s0)) (xS I L z)) := rfl
set_option maxRecDepth 100000 in
theorem b_X9_noCups_31 {C : xC} {Q : xQ} {K : xK} {I : xI} {L : xL} {z : Bool × Bool × Nat} {b : Nat × Nat} {a1 : Int32} {a2 : Int32} {s0 : Int32} :
  xrun k_X9_noCups 1 C Q [5, 31] K 2 31 [some (.ref 66), some (.int a1), some (.int a2)] [.int s0] (xS I L z) b =
  Q (some (.int s0)) (xS I L z) := rfl
set_option maxRecDepth 100000 in
theorem b_X9_law_0 {C : xC} {Q : xQ} {K : xK} {I : xI} {L : xL} {z : Bool × Bool × Nat} {b : Nat × Nat} {a1 : Int32} :
  xrun k_X9_law 1 C Q [9, 18] K 5 0 [some (.ref 66), some (.int a1), none] [] (xS I L z) b =
  C 188 [.long (Int32.toInt64 a1), .long (Int64.ofNat 0), .long (Int64.ofNat 2)] (xS I L z) (fun r τ => K 9 [some (.ref 66), some (.int a1), none] (r.toList ++ []) τ b) := rfl
set_option maxRecDepth 100000 in
theorem b_X9_law_9 {C : xC} {Q : xQ} {K : xK} {I : xI} {L : xL} {z : Bool × Bool × Nat} {b : Nat × Nat} {a1 : Int32} {s0 : Int32} :
  xrun k_X9_law 1 C Q [9, 18] K 9 9 [some (.ref 66), some (.int a1), none] [.int s0] (xS I L z) b =
  (if s0 = 0 then C 187 [.ref 66, .int (-2 : Int32)] (xS I L z) (fun r τ => K 18 [some (.ref 66), some (.int a1), none] (r.toList ++ []) τ b) else Q (some (.int (I 66 10))) (xS (xw I 66 10 a1) L z)) := rfl
set_option maxRecDepth 100000 in
theorem b_X9_law_18 {C : xC} {Q : xQ} {K : xK} {I : xI} {L : xL} {z : Bool × Bool × Nat} {b : Nat × Nat} {a1 : Int32} {s0 : Int32} :
  xrun k_X9_law 1 C Q [9, 18] K 1 18 [some (.ref 66), some (.int a1), none] [.int s0] (xS I L z) b =
  Q (some (.int s0)) (xS I L z) := rfl
set_option maxRecDepth 100000 in
theorem b_X9_sort_0 {C : xC} {Q : xQ} {K : xK} {I : xI} {L : xL} {z : Bool × Bool × Nat} {b : Nat × Nat} {a1 : Int32} {a2 : Int32} {a3 : Int32} :
  xrun k_X9_sort 1 C Q [9, 21, 33, 42] K 5 0 [some (.ref 66), some (.int a1), some (.int a2), some (.int a3), none] [] (xS I L z) b =
  C 188 [.long (Int32.toInt64 a1), .long (Int64.ofNat 0), .long (Int64.ofNat 5)] (xS I L z) (fun r τ => K 9 [some (.ref 66), some (.int a1), some (.int a2), some (.int a3), none] (r.toList ++ []) τ b) := rfl
set_option maxRecDepth 100000 in
theorem b_X9_sort_9 {C : xC} {Q : xQ} {K : xK} {I : xI} {L : xL} {z : Bool × Bool × Nat} {b : Nat × Nat} {a1 : Int32} {a2 : Int32} {a3 : Int32} {s0 : Int32} :
  xrun k_X9_sort 1 C Q [9, 21, 33, 42] K 6 9 [some (.ref 66), some (.int a1), some (.int a2), some (.int a3), none] [.int s0] (xS I L z) b =
  (if s0 = 0 then C 187 [.ref 66, .int (-2 : Int32)] (xS I L z) (fun r τ => K 42 [some (.ref 66), some (.int a1), some (.int a2), some (.int a3), none] (r.toList ++ []) τ b) else C 188 [.long (Int32.toInt64 a2), .long (Int64.ofNat 0), .long (Int64.ofNat 2)] (xS I L z) (fun r τ => K 21 [some (.ref 66), some (.int a1), some (.int a2), some (.int a3), none] (r.toList ++ []) τ b)) := rfl
set_option maxRecDepth 100000 in
theorem b_X9_sort_21 {C : xC} {Q : xQ} {K : xK} {I : xI} {L : xL} {z : Bool × Bool × Nat} {b : Nat × Nat} {a1 : Int32} {a2 : Int32} {a3 : Int32} {s0 : Int32} :
  xrun k_X9_sort 1 C Q [9, 21, 33, 42] K 6 21 [some (.ref 66), some (.int a1), some (.int a2), some (.int a3), none] [.int s0] (xS I L z) b =
  (if s0 = 0 then C 187 [.ref 66, .int (-2 : Int32)] (xS I L z) (fun r τ => K 42 [some (.ref 66), some (.int a1), some (.int a2), some (.int a3), none] (r.toList ++ []) τ b) else C 188 [.long (Int32.toInt64 a3), .long (Int64.ofNat 0), .long (Int64.ofNat 9)] (xS I L z) (fun r τ => K 33 [some (.ref 66), some (.int a1), some (.int a2), some (.int a3), none] (r.toList ++ []) τ b)) := rfl
set_option maxRecDepth 100000 in
theorem b_X9_sort_42 {C : xC} {Q : xQ} {K : xK} {I : xI} {L : xL} {z : Bool × Bool × Nat} {b : Nat × Nat} {a1 : Int32} {a2 : Int32} {a3 : Int32} {s0 : Int32} :
  xrun k_X9_sort 1 C Q [9, 21, 33, 42] K 1 42 [some (.ref 66), some (.int a1), some (.int a2), some (.int a3), none] [.int s0] (xS I L z) b =
  Q (some (.int s0)) (xS I L z) := rfl
set_option maxRecDepth 100000 in
theorem b_X9_sort_33 {C : xC} {Q : xQ} {K : xK} {I : xI} {L : xL} {z : Bool × Bool × Nat} {b : Nat × Nat} {a1 : Int32} {a2 : Int32} {a3 : Int32} {s0 : Int32} :
  xrun k_X9_sort 1 C Q [9, 21, 33, 42] K 17 33 [some (.ref 66), some (.int a1), some (.int a2), some (.int a3), none] [.int s0] (xS I L z) b =
  (if s0 = 0 then C 187 [.ref 66, .int (-2 : Int32)] (xS I L z) (fun r τ => K 42 [some (.ref 66), some (.int a1), some (.int a2), some (.int a3), none] (r.toList ++ []) τ b) else (if xin a1 (6) then (bif xisi (xS I L z) (85 + 1 + Int32.toNatClampNeg a1) then (if xin a2 (xlen z.2.2 (85 + 1 + Int32.toNatClampNeg a1)) then (if xin a1 (6) then (bif xis (xS I L z) (85 + 1 + Int32.toNatClampNeg a1) 20 && Nat.blt 8 (85 + 1 + Int32.toNatClampNeg a1) then (if xin a2 (xlen z.2.2 (85 + 1 + Int32.toNatClampNeg a1)) then Q (some (.int (I (85 + 1 + Int32.toNatClampNeg a1) (Int32.toNatClampNeg a2)))) (xS (xw I (85 + 1 + Int32.toNatClampNeg a1) (Int32.toNatClampNeg a2) a3) L z) else False) else False) else False) else False) else False) else False)) := rfl
set_option maxRecDepth 100000 in
theorem b_X9_guest_0 {C : xC} {Q : xQ} {K : xK} {I : xI} {L : xL} {z : Bool × Bool × Nat} {b : Nat × Nat} {a1 : Int32} {a2 : Int32} {a3 : Int32} :
  xrun k_X9_guest 1 C Q [6, 20, 32, 41] K 4 0 [some (.ref 66), some (.int a1), some (.int a2), some (.int a3)] [] (xS I L z) b =
  C 189 [.ref 66, .long (Int32.toInt64 a1)] (xS I L z) (fun r τ => K 6 [some (.ref 66), some (.int a1), some (.int a2), some (.int a3)] (r.toList ++ []) τ b) := rfl
set_option maxRecDepth 100000 in
theorem b_X9_guest_6 {C : xC} {Q : xQ} {K : xK} {I : xI} {L : xL} {z : Bool × Bool × Nat} {b : Nat × Nat} {a1 : Int32} {a2 : Int32} {a3 : Int32} {s0 : Int32} :
  xrun k_X9_guest 1 C Q [6, 20, 32, 41] K 6 6 [some (.ref 66), some (.int a1), some (.int a2), some (.int a3)] [.int s0] (xS I L z) b =
  (if s0 = 0 then C 187 [.ref 66, .int (-2 : Int32)] (xS I L z) (fun r τ => K 41 [some (.ref 66), some (.int a1), some (.int a2), some (.int a3)] (r.toList ++ []) τ b) else C 188 [.long (Int32.toInt64 a2), .long (Int64.ofNat 18446744073709551615), .long (Int64.ofNat 5)] (xS I L z) (fun r τ => K 20 [some (.ref 66), some (.int a1), some (.int a2), some (.int a3)] (r.toList ++ []) τ b)) := rfl
set_option maxRecDepth 100000 in
theorem b_X9_guest_20 {C : xC} {Q : xQ} {K : xK} {I : xI} {L : xL} {z : Bool × Bool × Nat} {b : Nat × Nat} {a1 : Int32} {a2 : Int32} {a3 : Int32} {s0 : Int32} :
  xrun k_X9_guest 1 C Q [6, 20, 32, 41] K 6 20 [some (.ref 66), some (.int a1), some (.int a2), some (.int a3)] [.int s0] (xS I L z) b =
  (if s0 = 0 then C 187 [.ref 66, .int (-2 : Int32)] (xS I L z) (fun r τ => K 41 [some (.ref 66), some (.int a1), some (.int a2), some (.int a3)] (r.toList ++ []) τ b) else C 188 [.long (Int32.toInt64 a3), .long (Int64.ofNat 0), .long (Int64.ofNat 9)] (xS I L z) (fun r τ => K 32 [some (.ref 66), some (.int a1), some (.int a2), some (.int a3)] (r.toList ++ []) τ b)) := rfl
set_option maxRecDepth 100000 in
theorem b_X9_guest_41 {C : xC} {Q : xQ} {K : xK} {I : xI} {L : xL} {z : Bool × Bool × Nat} {b : Nat × Nat} {a1 : Int32} {a2 : Int32} {a3 : Int32} {s0 : Int32} :
  xrun k_X9_guest 1 C Q [6, 20, 32, 41] K 1 41 [some (.ref 66), some (.int a1), some (.int a2), some (.int a3)] [.int s0] (xS I L z) b =
  Q (some (.int s0)) (xS I L z) := rfl
set_option maxRecDepth 100000 in
theorem b_X9_guest_32 {C : xC} {Q : xQ} {K : xK} {I : xI} {L : xL} {z : Bool × Bool × Nat} {b : Nat × Nat} {a1 : Int32} {a2 : Int32} {a3 : Int32} {s0 : Int32} :
  xrun k_X9_guest 1 C Q [6, 20, 32, 41] K 13 32 [some (.ref 66), some (.int a1), some (.int a2), some (.int a3)] [.int s0] (xS I L z) b =
  (if s0 = 0 then C 187 [.ref 66, .int (-2 : Int32)] (xS I L z) (fun r τ => K 41 [some (.ref 66), some (.int a1), some (.int a2), some (.int a3)] (r.toList ++ []) τ b) else (if xin a1 (6) then (if xin a1 (6) then Q (some (.int 1)) (xS (xw (xw I 92 (Int32.toNatClampNeg a1) a2) 93 (Int32.toNatClampNeg a1) a3) L z) else False) else False)) := rfl
set_option maxRecDepth 100000 in
theorem b_X9_addTeller_0 {C : xC} {Q : xQ} {K : xK} {I : xI} {L : xL} {z : Bool × Bool × Nat} {b : Nat × Nat} {a1 : Int32} {a2 : Int32} :
  xrun k_X9_addTeller 0 C Q [] K 19 0 [some (.ref 66), some (.int a1), some (.int a2)] [] (xS I L z) b =
  (if xin (I 66 17) (4) then (if xin ((xw I 101 (Int32.toNatClampNeg (I 66 17)) a1) 66 17) (4) then Q none (xS (xw (xw (xw I 101 (Int32.toNatClampNeg (I 66 17)) a1) 102 (Int32.toNatClampNeg ((xw I 101 (Int32.toNatClampNeg (I 66 17)) a1) 66 17)) a2) 66 17 (((xw (xw I 101 (Int32.toNatClampNeg (I 66 17)) a1) 102 (Int32.toNatClampNeg ((xw I 101 (Int32.toNatClampNeg (I 66 17)) a1) 66 17)) a2) 66 17) + 1)) L z) else False) else False) := rfl
set_option maxRecDepth 100000 in
theorem b_X9_teller_0 {C : xC} {Q : xQ} {K : xK} {I : xI} {L : xL} {z : Bool × Bool × Nat} {b : Nat × Nat} {a1 : Int32} {a2 : Int32} :
  xrun k_X9_teller 1 C Q [9, 21, 30, 45, 52] K 5 0 [some (.ref 66), some (.int a1), some (.int a2)] [] (xS I L z) b =
  C 188 [.long (Int32.toInt64 a1), .long (Int64.ofNat 0), .long (Int64.ofNat 5)] (xS I L z) (fun r τ => K 9 [some (.ref 66), some (.int a1), some (.int a2)] (r.toList ++ []) τ b) := rfl
set_option maxRecDepth 100000 in
theorem b_X9_teller_9 {C : xC} {Q : xQ} {K : xK} {I : xI} {L : xL} {z : Bool × Bool × Nat} {b : Nat × Nat} {a1 : Int32} {a2 : Int32} {s0 : Int32} :
  xrun k_X9_teller 1 C Q [9, 21, 30, 45, 52] K 6 9 [some (.ref 66), some (.int a1), some (.int a2)] [.int s0] (xS I L z) b =
  (if s0 = 0 then C 187 [.ref 66, .int (-2 : Int32)] (xS I L z) (fun r τ => K 30 [some (.ref 66), some (.int a1), some (.int a2)] (r.toList ++ []) τ b) else C 188 [.long (Int32.toInt64 a2), .long (Int64.ofNat 0), .long (Int64.ofNat 9)] (xS I L z) (fun r τ => K 21 [some (.ref 66), some (.int a1), some (.int a2)] (r.toList ++ []) τ b)) := rfl
set_option maxRecDepth 100000 in
theorem b_X9_teller_21 {C : xC} {Q : xQ} {K : xK} {I : xI} {L : xL} {z : Bool × Bool × Nat} {b : Nat × Nat} {a1 : Int32} {a2 : Int32} {s0 : Int32} :
  xrun k_X9_teller 1 C Q [9, 21, 30, 45, 52] K 9 21 [some (.ref 66), some (.int a1), some (.int a2)] [.int s0] (xS I L z) b =
  (if s0 = 0 then C 187 [.ref 66, .int (-2 : Int32)] (xS I L z) (fun r τ => K 30 [some (.ref 66), some (.int a1), some (.int a2)] (r.toList ++ []) τ b) else (if (I 66 17) = 4 then C 187 [.ref 66, .int (-6 : Int32)] (xS I L z) (fun r τ => K 45 [some (.ref 66), some (.int a1), some (.int a2)] (r.toList ++ []) τ b) else C 214 [.ref 66, .int a1, .int a2] (xS I L z) (fun r τ => K 52 [some (.ref 66), some (.int a1), some (.int a2)] (r.toList ++ []) τ b))) := rfl
set_option maxRecDepth 100000 in
theorem b_X9_teller_30 {C : xC} {Q : xQ} {K : xK} {I : xI} {L : xL} {z : Bool × Bool × Nat} {b : Nat × Nat} {a1 : Int32} {a2 : Int32} {s0 : Int32} :
  xrun k_X9_teller 1 C Q [9, 21, 30, 45, 52] K 1 30 [some (.ref 66), some (.int a1), some (.int a2)] [.int s0] (xS I L z) b =
  Q (some (.int s0)) (xS I L z) := rfl
set_option maxRecDepth 100000 in
theorem b_X9_teller_45 {C : xC} {Q : xQ} {K : xK} {I : xI} {L : xL} {z : Bool × Bool × Nat} {b : Nat × Nat} {a1 : Int32} {a2 : Int32} {s0 : Int32} :
  xrun k_X9_teller 1 C Q [9, 21, 30, 45, 52] K 1 45 [some (.ref 66), some (.int a1), some (.int a2)] [.int s0] (xS I L z) b =
  Q (some (.int s0)) (xS I L z) := rfl
set_option maxRecDepth 100000 in
theorem b_X9_teller_52 {C : xC} {Q : xQ} {K : xK} {I : xI} {L : xL} {z : Bool × Bool × Nat} {b : Nat × Nat} {a1 : Int32} {a2 : Int32} :
  xrun k_X9_teller 1 C Q [9, 21, 30, 45, 52] K 5 52 [some (.ref 66), some (.int a1), some (.int a2)] [] (xS I L z) b =
  Q (some (.int ((I 66 17) - 1))) (xS I L z) := rfl
set_option maxRecDepth 100000 in
theorem b_X9_mayBe_0 {C : xC} {Q : xQ} {K : xK} {I : xI} {L : xL} {z : Bool × Bool × Nat} {b : Nat × Nat} {a0 : Int32} {a1 : Int32} :
  xrun k_X9_mayBe 2 C Q [20] K 9 0 [some (.int a0), some (.int a1)] [] (xS I L z) b =
  (if a0 = 3 then C 188 [.long (Int32.toInt64 a1), .long (Int64.ofNat 0), .long (Int64.ofNat 5)] (xS I L z) (fun r τ => K 20 [some (.int a0), some (.int a1)] (r.toList ++ []) τ b) else C 188 [.long (Int32.toInt64 a1), .long (Int64.ofNat 0), .long (Int64.ofNat 9)] (xS I L z) (fun r τ => K 20 [some (.int a0), some (.int a1)] (r.toList ++ []) τ b)) := rfl
set_option maxRecDepth 100000 in
theorem b_X9_mayBe_20 {C : xC} {Q : xQ} {K : xK} {I : xI} {L : xL} {z : Bool × Bool × Nat} {b : Nat × Nat} {a0 : Int32} {a1 : Int32} {s0 : Int32} :
  xrun k_X9_mayBe 2 C Q [20] K 1 20 [some (.int a0), some (.int a1)] [.int s0] (xS I L z) b =
  (bif xbool s0 then Q (some (.int s0)) (xS I L z) else False) := rfl
set_option maxRecDepth 100000 in
theorem b_X9_feed_0 {C : xC} {Q : xQ} {K : xK} {I : xI} {L : xL} {z : Bool × Bool × Nat} {b : Nat × Nat} {a1 : Int32} :
  xrun k_X9_feed 1 C Q [9, 18, 35] K 5 0 [some (.ref 66), some (.int a1)] [] (xS I L z) b =
  C 188 [.long (Int32.toInt64 a1), .long (Int64.ofNat 0), .long (Int64.ofNat 255)] (xS I L z) (fun r τ => K 9 [some (.ref 66), some (.int a1)] (r.toList ++ []) τ b) := rfl
set_option maxRecDepth 100000 in
theorem b_X9_feed_9 {C : xC} {Q : xQ} {K : xK} {I : xI} {L : xL} {z : Bool × Bool × Nat} {b : Nat × Nat} {a1 : Int32} {s0 : Int32} :
  xrun k_X9_feed 1 C Q [9, 18, 35] K 19 9 [some (.ref 66), some (.int a1)] [.int s0] (xS I L z) b =
  (if s0 = 0 then C 187 [.ref 66, .int (-2 : Int32)] (xS I L z) (fun r τ => K 18 [some (.ref 66), some (.int a1)] (r.toList ++ []) τ b) else (if (I 66 7) = 250 then C 187 [.ref 66, .int (-6 : Int32)] (xS I L z) (fun r τ => K 35 [some (.ref 66), some (.int a1)] (r.toList ++ []) τ b) else (if xin (I 66 7) (250) then Q (some (.int ((xw (xw I 66 7 ((I 66 7) + 1)) 81 (Int32.toNatClampNeg (I 66 7)) a1) 66 7))) (xS (xw (xw I 66 7 ((I 66 7) + 1)) 81 (Int32.toNatClampNeg (I 66 7)) a1) L z) else False))) := rfl
set_option maxRecDepth 100000 in
theorem b_X9_feed_18 {C : xC} {Q : xQ} {K : xK} {I : xI} {L : xL} {z : Bool × Bool × Nat} {b : Nat × Nat} {a1 : Int32} {s0 : Int32} :
  xrun k_X9_feed 1 C Q [9, 18, 35] K 1 18 [some (.ref 66), some (.int a1)] [.int s0] (xS I L z) b =
  Q (some (.int s0)) (xS I L z) := rfl
set_option maxRecDepth 100000 in
theorem b_X9_feed_35 {C : xC} {Q : xQ} {K : xK} {I : xI} {L : xL} {z : Bool × Bool × Nat} {b : Nat × Nat} {a1 : Int32} {s0 : Int32} :
  xrun k_X9_feed 1 C Q [9, 18, 35] K 1 35 [some (.ref 66), some (.int a1)] [.int s0] (xS I L z) b =
  Q (some (.int s0)) (xS I L z) := rfl
set_option maxRecDepth 100000 in
theorem b_X9_wipe_0 {C : xC} {Q : xQ} {K : xK} {I : xI} {L : xL} {z : Bool × Bool × Nat} {b : Nat × Nat}  :
  xrun k_X9_wipe 1 C Q [] K 8 0 [some (.ref 66), none] [] (xS I L z) b =
  Q (some (.int (I 66 7))) (xS (xw I 66 7 0) L z) := rfl
set_option maxRecDepth 100000 in
theorem b_X9_isLetter_0 {C : xC} {Q : xQ} {K : xK} {I : xI} {L : xL} {z : Bool × Bool × Nat} {b : Nat × Nat} {a0 : Int32} :
  xrun k_X9_isLetter 2 C Q [] K 9 0 [some (.int a0)] [] (xS I L z) b =
  (if a0 < 97 then Q (some (.int 0)) (xS I L z) else (if 122 < a0 then Q (some (.int 0)) (xS I L z) else Q (some (.int 1)) (xS I L z))) := rfl
set_option maxRecDepth 100000 in
theorem b_X9_isDigit_0 {C : xC} {Q : xQ} {K : xK} {I : xI} {L : xL} {z : Bool × Bool × Nat} {b : Nat × Nat} {a0 : Int32} :
  xrun k_X9_isDigit 2 C Q [] K 9 0 [some (.int a0)] [] (xS I L z) b =
  (if a0 < 48 then Q (some (.int 0)) (xS I L z) else (if 57 < a0 then Q (some (.int 0)) (xS I L z) else Q (some (.int 1)) (xS I L z))) := rfl
set_option maxRecDepth 100000 in
theorem b_X9_wrong_0 {C : xC} {Q : xQ} {K : xK} {I : xI} {L : xL} {z : Bool × Bool × Nat} {b : Nat × Nat}  :
  xrun k_X9_wrong 2 C Q [] K 6 0 [some (.ref 66)] [] (xS I L z) b =
  Q (some (.int 0)) (xS (xw I 66 27 (I 66 25)) L z) := rfl
set_option maxRecDepth 100000 in
theorem b_X9_sortAt_0 {C : xC} {Q : xQ} {K : xK} {I : xI} {L : xL} {z : Bool × Bool × Nat} {b : Nat × Nat} {a1 : Int32} {a2 : Int32} :
  xrun k_X9_sortAt 1 C Q [] K 9 0 [some (.ref 66), some (.int a1), some (.int a2)] [] (xS I L z) b =
  (if xin ((a1 * 6) + a2) (4320) then Q (some (.int (I 105 (Int32.toNatClampNeg ((a1 * 6) + a2))))) (xS I L z) else False) := rfl
set_option maxRecDepth 100000 in
theorem b_X9_numberAt_0 {C : xC} {Q : xQ} {K : xK} {I : xI} {L : xL} {z : Bool × Bool × Nat} {b : Nat × Nat} {a1 : Int32} {a2 : Int32} {a3 : Int32} :
  xrun k_X9_numberAt 1 C Q [10] K 6 0 [some (.ref 66), some (.int a1), some (.int a2), some (.int a3)] [] (xS I L z) b =
  C 235 [.ref 66, .int a1, .int a2] (xS I L z) (fun r τ => K 10 [some (.ref 66), some (.int a1), some (.int a2), some (.int a3)] (r.toList ++ [.ref 85]) τ b) := rfl
set_option maxRecDepth 100000 in
theorem b_X9_numberAt_10 {C : xC} {Q : xQ} {K : xK} {I : xI} {L : xL} {z : Bool × Bool × Nat} {b : Nat × Nat} {a1 : Int32} {a2 : Int32} {a3 : Int32} {s0 : Int32} :
  xrun k_X9_numberAt 1 C Q [10] K 4 10 [some (.ref 66), some (.int a1), some (.int a2), some (.int a3)] [.int s0, .ref 85] (xS I L z) b =
  (if xin s0 (6) then (bif xisi (xS I L z) (85 + 1 + Int32.toNatClampNeg s0) then (if xin a3 (xlen z.2.2 (85 + 1 + Int32.toNatClampNeg s0)) then Q (some (.int (I (85 + 1 + Int32.toNatClampNeg s0) (Int32.toNatClampNeg a3)))) (xS I L z) else False) else False) else False) := rfl
set_option maxRecDepth 100000 in
theorem b_X9_isWrong_0 {C : xC} {Q : xQ} {K : xK} {I : xI} {L : xL} {z : Bool × Bool × Nat} {b : Nat × Nat} {a1 : Int32} {a2 : Int32} :
  xrun k_X9_isWrong 2 C Q [] K 15 0 [some (.ref 66), some (.int a1), some (.int a2)] [] (xS I L z) b =
  (if xin a1 (6) then (if (I 92 (Int32.toNatClampNeg a1)) = (-1 : Int32) then Q (some (.int 0)) (xS I L z) else (if xin a1 (6) then (if (I 92 (Int32.toNatClampNeg a1)) = a2 then Q (some (.int 0)) (xS I L z) else Q (some (.int 1)) (xS I L z)) else False)) else False) := rfl
set_option maxRecDepth 100000 in
theorem b_X9_looks_0 {C : xC} {Q : xQ} {K : xK} {I : xI} {L : xL} {z : Bool × Bool × Nat} {b : Nat × Nat} {a1 : Int32} {a2 : Int32} :
  xrun k_X9_looks 1 C Q [] K 22 0 [some (.ref 66), some (.int a1), some (.int a2)] [] (xS I L z) b =
  (if xin a1 (6) then (if xin a1 (6) then (if xin (I 84 (Int32.toNatClampNeg a1)) (6) then (bif xisi (xS I L z) (85 + 1 + Int32.toNatClampNeg (I 84 (Int32.toNatClampNeg a1))) then (if xin a2 (xlen z.2.2 (85 + 1 + Int32.toNatClampNeg (I 84 (Int32.toNatClampNeg a1)))) then (bif xis (xS I L z) (94 + 1 + Int32.toNatClampNeg a1) 20 && Nat.blt 8 (94 + 1 + Int32.toNatClampNeg a1) then (if xin a2 (xlen z.2.2 (94 + 1 + Int32.toNatClampNeg a1)) then (if xin a1 (6) then (bif xisi (xS (xw I (94 + 1 + Int32.toNatClampNeg a1) (Int32.toNatClampNeg a2) (I (85 + 1 + Int32.toNatClampNeg (I 84 (Int32.toNatClampNeg a1))) (Int32.toNatClampNeg a2))) L z) (94 + 1 + Int32.toNatClampNeg a1) then (if xin a2 (xlen z.2.2 (94 + 1 + Int32.toNatClampNeg a1)) then Q (some (.int ((xw I (94 + 1 + Int32.toNatClampNeg a1) (Int32.toNatClampNeg a2) (I (85 + 1 + Int32.toNatClampNeg (I 84 (Int32.toNatClampNeg a1))) (Int32.toNatClampNeg a2))) (94 + 1 + Int32.toNatClampNeg a1) (Int32.toNatClampNeg a2)))) (xS (xw I (94 + 1 + Int32.toNatClampNeg a1) (Int32.toNatClampNeg a2) (I (85 + 1 + Int32.toNatClampNeg (I 84 (Int32.toNatClampNeg a1))) (Int32.toNatClampNeg a2))) L z) else False) else False) else False) else False) else False) else False) else False) else False) else False) else False) := rfl
set_option maxRecDepth 100000 in
theorem b_X9_look__0 {C : xC} {Q : xQ} {K : xK} {I : xI} {L : xL} {z : Bool × Bool × Nat} {b : Nat × Nat} {a1 : Int32} {a2 : Int32} :
  xrun k_X9_look_ 1 C Q [6, 18, 27, 62] K 4 0 [some (.ref 66), some (.int a1), some (.int a2)] [] (xS I L z) b =
  C 189 [.ref 66, .long (Int32.toInt64 a1)] (xS I L z) (fun r τ => K 6 [some (.ref 66), some (.int a1), some (.int a2)] (r.toList ++ []) τ b) := rfl
set_option maxRecDepth 100000 in
theorem b_X9_look__6 {C : xC} {Q : xQ} {K : xK} {I : xI} {L : xL} {z : Bool × Bool × Nat} {b : Nat × Nat} {a1 : Int32} {a2 : Int32} {s0 : Int32} :
  xrun k_X9_look_ 1 C Q [6, 18, 27, 62] K 6 6 [some (.ref 66), some (.int a1), some (.int a2)] [.int s0] (xS I L z) b =
  (if s0 = 0 then C 187 [.ref 66, .int (-2 : Int32)] (xS I L z) (fun r τ => K 27 [some (.ref 66), some (.int a1), some (.int a2)] (r.toList ++ []) τ b) else C 188 [.long (Int32.toInt64 a2), .long (Int64.ofNat 0), .long (Int64.ofNat 3)] (xS I L z) (fun r τ => K 18 [some (.ref 66), some (.int a1), some (.int a2)] (r.toList ++ []) τ b)) := rfl
set_option maxRecDepth 100000 in
theorem b_X9_look__18 {C : xC} {Q : xQ} {K : xK} {I : xI} {L : xL} {z : Bool × Bool × Nat} {b : Nat × Nat} {a1 : Int32} {a2 : Int32} {s0 : Int32} :
  xrun k_X9_look_ 1 C Q [6, 18, 27, 62] K 19 18 [some (.ref 66), some (.int a1), some (.int a2)] [.int s0] (xS I L z) b =
  (if s0 = 0 then C 187 [.ref 66, .int (-2 : Int32)] (xS I L z) (fun r τ => K 27 [some (.ref 66), some (.int a1), some (.int a2)] (r.toList ++ []) τ b) else (if xin a1 (6) then (bif xisi (xS I L z) (94 + 1 + Int32.toNatClampNeg a1) then (if xin a2 (xlen z.2.2 (94 + 1 + Int32.toNatClampNeg a1)) then (if (I (94 + 1 + Int32.toNatClampNeg a1) (Int32.toNatClampNeg a2)) = (-1 : Int32) then C 286 [.ref 66, .int a1, .int a2] (xS I L z) (fun r τ => K 62 [some (.ref 66), some (.int a1), some (.int a2)] (r.toList ++ []) τ b) else (if xin a1 (6) then (if xin (I 84 (Int32.toNatClampNeg a1)) (6) then (bif xisi (xS I L z) (85 + 1 + Int32.toNatClampNeg (I 84 (Int32.toNatClampNeg a1))) then (if xin a2 (xlen z.2.2 (85 + 1 + Int32.toNatClampNeg (I 84 (Int32.toNatClampNeg a1)))) then K 62 [some (.ref 66), some (.int a1), some (.int a2)] [.int (I (85 + 1 + Int32.toNatClampNeg (I 84 (Int32.toNatClampNeg a1))) (Int32.toNatClampNeg a2))] (xS I L z) b else False) else False) else False) else False)) else False) else False) else False)) := rfl
set_option maxRecDepth 100000 in
theorem b_X9_look__27 {C : xC} {Q : xQ} {K : xK} {I : xI} {L : xL} {z : Bool × Bool × Nat} {b : Nat × Nat} {a1 : Int32} {a2 : Int32} {s0 : Int32} :
  xrun k_X9_look_ 1 C Q [6, 18, 27, 62] K 1 27 [some (.ref 66), some (.int a1), some (.int a2)] [.int s0] (xS I L z) b =
  Q (some (.int s0)) (xS I L z) := rfl
set_option maxRecDepth 100000 in
theorem b_X9_look__62 {C : xC} {Q : xQ} {K : xK} {I : xI} {L : xL} {z : Bool × Bool × Nat} {b : Nat × Nat} {a1 : Int32} {a2 : Int32} {s0 : Int32} :
  xrun k_X9_look_ 1 C Q [6, 18, 27, 62] K 1 62 [some (.ref 66), some (.int a1), some (.int a2)] [.int s0] (xS I L z) b =
  Q (some (.int s0)) (xS I L z) := rfl
set_option maxRecDepth 100000 in
theorem b_X9_below_0 {C : xC} {Q : xQ} {K : xK} {I : xI} {L : xL} {z : Bool × Bool × Nat} {b : Nat × Nat} {a1 : Int32} :
  xrun k_X9_below 1 C Q [] K 15 0 [some (.ref 66), some (.int a1)] [] (xS I L z) b =
  (if a1 = 0 then False else Q (some (.int (((Int32.toUInt32 ((xw I 66 20 (((I 66 20) * 1103515245) + 12345)) 66 20) >>> (Int32.toUInt32 16 &&& Int32.toUInt32 31)).toInt32) - ((Int32.toUInt32 ((xw I 66 20 (((I 66 20) * 1103515245) + 12345)) 66 20) >>> (Int32.toUInt32 16 &&& Int32.toUInt32 31)).toInt32) / a1 * a1))) (xS (xw I 66 20 (((I 66 20) * 1103515245) + 12345)) L z)) := rfl
set_option maxRecDepth 100000 in
theorem b_X9_stands_0 {C : xC} {Q : xQ} {K : xK} {I : xI} {L : xL} {z : Bool × Bool × Nat} {b : Nat × Nat} {a1 : Int32} :
  xrun k_X9_stands 1 C Q [6, 24] K 4 0 [some (.ref 66), some (.int a1)] [] (xS I L z) b =
  C 189 [.ref 66, .long (Int32.toInt64 a1)] (xS I L z) (fun r τ => K 6 [some (.ref 66), some (.int a1)] (r.toList ++ []) τ b) := rfl
set_option maxRecDepth 100000 in
theorem b_X9_stands_6 {C : xC} {Q : xQ} {K : xK} {I : xI} {L : xL} {z : Bool × Bool × Nat} {b : Nat × Nat} {a1 : Int32} {s0 : Int32} :
  xrun k_X9_stands 1 C Q [6, 24] K 6 6 [some (.ref 66), some (.int a1)] [.int s0] (xS I L z) b =
  (if s0 = 0 then C 187 [.ref 66, .int (-2 : Int32)] (xS I L z) (fun r τ => K 24 [some (.ref 66), some (.int a1)] (r.toList ++ []) τ b) else (if xin a1 (6) then K 24 [some (.ref 66), some (.int a1)] [.int (I 84 (Int32.toNatClampNeg a1))] (xS I L z) b else False)) := rfl
set_option maxRecDepth 100000 in
theorem b_X9_stands_24 {C : xC} {Q : xQ} {K : xK} {I : xI} {L : xL} {z : Bool × Bool × Nat} {b : Nat × Nat} {a1 : Int32} {s0 : Int32} :
  xrun k_X9_stands 1 C Q [6, 24] K 1 24 [some (.ref 66), some (.int a1)] [.int s0] (xS I L z) b =
  Q (some (.int s0)) (xS I L z) := rfl
set_option maxRecDepth 100000 in
theorem b_X9_seed_0 {C : xC} {Q : xQ} {K : xK} {I : xI} {L : xL} {z : Bool × Bool × Nat} {b : Nat × Nat} {a1 : Int32} :
  xrun k_X9_seed 1 C Q [] K 8 0 [some (.ref 66), some (.int a1), none] [] (xS I L z) b =
  Q (some (.int (I 66 20))) (xS (xw I 66 20 a1) L z) := rfl
set_option maxRecDepth 100000 in
theorem b_J6_bitCount_0f7a4_0 {C : xC} {Q : xQ} {K : xK} {I : xI} {L : xL} {z : Bool × Bool × Nat} {b : Nat × Nat} {a0 : Int32} :
  xrun k_J6_bitCount_0f7a4 1 C Q [] K 42 0 [some (.int a0)] [] (xS I L z) b =
  Q (some (.int ((((((((a0 - (((Int32.toUInt32 a0 >>> (Int32.toUInt32 1 &&& Int32.toUInt32 31)).toInt32) &&& 1431655765)) &&& 858993459) + (((Int32.toUInt32 (a0 - (((Int32.toUInt32 a0 >>> (Int32.toUInt32 1 &&& Int32.toUInt32 31)).toInt32) &&& 1431655765)) >>> (Int32.toUInt32 2 &&& Int32.toUInt32 31)).toInt32) &&& 858993459)) + ((Int32.toUInt32 (((a0 - (((Int32.toUInt32 a0 >>> (Int32.toUInt32 1 &&& Int32.toUInt32 31)).toInt32) &&& 1431655765)) &&& 858993459) + (((Int32.toUInt32 (a0 - (((Int32.toUInt32 a0 >>> (Int32.toUInt32 1 &&& Int32.toUInt32 31)).toInt32) &&& 1431655765)) >>> (Int32.toUInt32 2 &&& Int32.toUInt32 31)).toInt32) &&& 858993459)) >>> (Int32.toUInt32 4 &&& Int32.toUInt32 31)).toInt32)) &&& 252645135) + ((Int32.toUInt32 (((((a0 - (((Int32.toUInt32 a0 >>> (Int32.toUInt32 1 &&& Int32.toUInt32 31)).toInt32) &&& 1431655765)) &&& 858993459) + (((Int32.toUInt32 (a0 - (((Int32.toUInt32 a0 >>> (Int32.toUInt32 1 &&& Int32.toUInt32 31)).toInt32) &&& 1431655765)) >>> (Int32.toUInt32 2 &&& Int32.toUInt32 31)).toInt32) &&& 858993459)) + ((Int32.toUInt32 (((a0 - (((Int32.toUInt32 a0 >>> (Int32.toUInt32 1 &&& Int32.toUInt32 31)).toInt32) &&& 1431655765)) &&& 858993459) + (((Int32.toUInt32 (a0 - (((Int32.toUInt32 a0 >>> (Int32.toUInt32 1 &&& Int32.toUInt32 31)).toInt32) &&& 1431655765)) >>> (Int32.toUInt32 2 &&& Int32.toUInt32 31)).toInt32) &&& 858993459)) >>> (Int32.toUInt32 4 &&& Int32.toUInt32 31)).toInt32)) &&& 252645135) >>> (Int32.toUInt32 8 &&& Int32.toUInt32 31)).toInt32)) + ((Int32.toUInt32 ((((((a0 - (((Int32.toUInt32 a0 >>> (Int32.toUInt32 1 &&& Int32.toUInt32 31)).toInt32) &&& 1431655765)) &&& 858993459) + (((Int32.toUInt32 (a0 - (((Int32.toUInt32 a0 >>> (Int32.toUInt32 1 &&& Int32.toUInt32 31)).toInt32) &&& 1431655765)) >>> (Int32.toUInt32 2 &&& Int32.toUInt32 31)).toInt32) &&& 858993459)) + ((Int32.toUInt32 (((a0 - (((Int32.toUInt32 a0 >>> (Int32.toUInt32 1 &&& Int32.toUInt32 31)).toInt32) &&& 1431655765)) &&& 858993459) + (((Int32.toUInt32 (a0 - (((Int32.toUInt32 a0 >>> (Int32.toUInt32 1 &&& Int32.toUInt32 31)).toInt32) &&& 1431655765)) >>> (Int32.toUInt32 2 &&& Int32.toUInt32 31)).toInt32) &&& 858993459)) >>> (Int32.toUInt32 4 &&& Int32.toUInt32 31)).toInt32)) &&& 252645135) + ((Int32.toUInt32 (((((a0 - (((Int32.toUInt32 a0 >>> (Int32.toUInt32 1 &&& Int32.toUInt32 31)).toInt32) &&& 1431655765)) &&& 858993459) + (((Int32.toUInt32 (a0 - (((Int32.toUInt32 a0 >>> (Int32.toUInt32 1 &&& Int32.toUInt32 31)).toInt32) &&& 1431655765)) >>> (Int32.toUInt32 2 &&& Int32.toUInt32 31)).toInt32) &&& 858993459)) + ((Int32.toUInt32 (((a0 - (((Int32.toUInt32 a0 >>> (Int32.toUInt32 1 &&& Int32.toUInt32 31)).toInt32) &&& 1431655765)) &&& 858993459) + (((Int32.toUInt32 (a0 - (((Int32.toUInt32 a0 >>> (Int32.toUInt32 1 &&& Int32.toUInt32 31)).toInt32) &&& 1431655765)) >>> (Int32.toUInt32 2 &&& Int32.toUInt32 31)).toInt32) &&& 858993459)) >>> (Int32.toUInt32 4 &&& Int32.toUInt32 31)).toInt32)) &&& 252645135) >>> (Int32.toUInt32 8 &&& Int32.toUInt32 31)).toInt32)) >>> (Int32.toUInt32 16 &&& Int32.toUInt32 31)).toInt32)) &&& 63))) (xS I L z) := rfl
set_option maxRecDepth 100000 in
theorem b_X0_wrongWorlds_0 {C : xC} {Q : xQ} {K : xK} {I : xI} {L : xL} {z : Bool × Bool × Nat} {b : Nat × Nat} {a1 : Int32} {a2 : Int32} :
  xrun k_X0_wrongWorlds 1 C Q [8, 34] K 4 0 [some (.ref 50), some (.int a1), some (.int a2), none] [] (xS I L z) b =
  C 93 [.ref 10, .int a1] (xS I L z) (fun r τ => K 8 [some (.ref 50), some (.int a1), some (.int a2), none] (r.toList ++ []) τ b) := rfl
set_option maxRecDepth 100000 in
theorem b_X0_wrongWorlds_8 {C : xC} {Q : xQ} {K : xK} {I : xI} {L : xL} {z : Bool × Bool × Nat} {b : Nat × Nat} {a1 : Int32} {a2 : Int32} {s0 : Int32} :
  xrun k_X0_wrongWorlds 1 C Q [8, 34] K 12 8 [some (.ref 50), some (.int a1), some (.int a2), none] [.int s0] (xS I L z) b =
  (if s0 = (-1 : Int32) then Q (some (.int 0)) (xS I L z) else C 125 [.ref 37, .int a2, .int s0] (xS I L z) (fun r τ => K 34 [some (.ref 50), some (.int a1), some (.int a2), some (.int s0)] (r.toList ++ [.int (I 37 1)]) τ b)) := rfl
set_option maxRecDepth 100000 in
theorem b_X0_wrongWorlds_34 {C : xC} {Q : xQ} {K : xK} {I : xI} {L : xL} {z : Bool × Bool × Nat} {b : Nat × Nat} {a1 : Int32} {a2 : Int32} {a3 : Int32} {s1 : Int32} {s0 : Int32} :
  xrun k_X0_wrongWorlds 1 C Q [8, 34] K 2 34 [some (.ref 50), some (.int a1), some (.int a2), some (.int a3)] [.int s0, .int s1] (xS I L z) b =
  Q (some (.int (s1 - s0))) (xS I L z) := rfl
set_option maxRecDepth 100000 in
theorem b_X0_suits_0 {C : xC} {Q : xQ} {K : xK} {I : xI} {L : xL} {z : Bool × Bool × Nat} {b : Nat × Nat} {a1 : Int32} {a2 : Int32} :
  xrun k_X0_suits 2 C Q [8, 22] K 4 0 [some (.ref 50), some (.int a1), some (.int a2), none] [] (xS I L z) b =
  C 93 [.ref 10, .int a1] (xS I L z) (fun r τ => K 8 [some (.ref 50), some (.int a1), some (.int a2), none] (r.toList ++ []) τ b) := rfl
set_option maxRecDepth 100000 in
theorem b_X0_suits_8 {C : xC} {Q : xQ} {K : xK} {I : xI} {L : xL} {z : Bool × Bool × Nat} {b : Nat × Nat} {a1 : Int32} {a2 : Int32} {s0 : Int32} :
  xrun k_X0_suits 2 C Q [8, 22] K 8 8 [some (.ref 50), some (.int a1), some (.int a2), none] [.int s0] (xS I L z) b =
  (if s0 = (-1 : Int32) then Q (some (.int 1)) (xS I L z) else C 95 [.ref 10, .int a2] (xS I L z) (fun r τ => K 22 [some (.ref 50), some (.int a1), some (.int a2), some (.int s0)] (r.toList ++ []) τ b)) := rfl
set_option maxRecDepth 100000 in
theorem b_X0_suits_22 {C : xC} {Q : xQ} {K : xK} {I : xI} {L : xL} {z : Bool × Bool × Nat} {b : Nat × Nat} {a1 : Int32} {a2 : Int32} {a3 : Int32} {s0 : Int32} :
  xrun k_X0_suits 2 C Q [8, 22] K 5 22 [some (.ref 50), some (.int a1), some (.int a2), some (.int a3)] [.int s0] (xS I L z) b =
  (if s0 = a3 then Q (some (.int 1)) (xS I L z) else Q (some (.int 0)) (xS I L z)) := rfl
set_option maxRecDepth 100000 in
theorem b_X0_holderOfTaken_0 {C : xC} {Q : xQ} {K : xK} {I : xI} {L : xL} {z : Bool × Bool × Nat} {b : Nat × Nat} {a1 : Int32} :
  xrun k_X0_holderOfTaken 1 C Q [32] K 17 0 [some (.ref 50), some (.int a1), none] [] (xS I L z) b =
  (if a1 < 0 then C 82 [.ref 10, .int (-1 : Int32)] (xS I L z) (fun r τ => K 32 [some (.ref 50), some (.int a1), some (.int (-1 : Int32))] (r.toList ++ []) τ b) else (if a1 < 6 then (if xin a1 (6) then C 82 [.ref 10, .int (I 55 (Int32.toNatClampNeg a1))] (xS I L z) (fun r τ => K 32 [some (.ref 50), some (.int a1), some (.int (I 55 (Int32.toNatClampNeg a1)))] (r.toList ++ []) τ b) else False) else C 82 [.ref 10, .int (-1 : Int32)] (xS I L z) (fun r τ => K 32 [some (.ref 50), some (.int a1), some (.int (-1 : Int32))] (r.toList ++ []) τ b))) := rfl
set_option maxRecDepth 100000 in
theorem b_X0_holderOfTaken_32 {C : xC} {Q : xQ} {K : xK} {I : xI} {L : xL} {z : Bool × Bool × Nat} {b : Nat × Nat} {a1 : Int32} {a2 : Int32} {s0 : Int32} :
  xrun k_X0_holderOfTaken 1 C Q [32] K 7 32 [some (.ref 50), some (.int a1), some (.int a2)] [.int s0] (xS I L z) b =
  (if s0 = 0 then Q (some (.int 0)) (xS I L z) else (if xin a2 (6) then Q (some (.int (I 54 (Int32.toNatClampNeg a2)))) (xS I L z) else False)) := rfl
set_option maxRecDepth 100000 in
theorem b_X2_putElement_0 {C : xC} {Q : xQ} {K : xK} {I : xI} {L : xL} {z : Bool × Bool × Nat} {b : Nat × Nat} {a1 : Int32} {a2 : Int32} {a3 : Int64} :
  xrun k_X2_putElement 0 C Q [6, 29] K 4 0 [some (.ref 57), some (.int a1), some (.int a2), some (.long a3), none] [] (xS I L z) b =
  C 42 [.ref 57, .int a1, .int a2] (xS I L z) (fun r τ => K 6 [some (.ref 57), some (.int a1), some (.int a2), some (.long a3), none] (r.toList ++ []) τ b) := rfl
set_option maxRecDepth 100000 in
theorem b_X2_putElement_6 {C : xC} {Q : xQ} {K : xK} {I : xI} {L : xL} {z : Bool × Bool × Nat} {b : Nat × Nat} {a1 : Int32} {a2 : Int32} {a3 : Int64} {s0 : Int32} :
  xrun k_X2_putElement 0 C Q [6, 29] K 14 6 [some (.ref 57), some (.int a1), some (.int a2), some (.long a3), none] [.int s0] (xS I L z) b =
  (if s0 = 0 then Q none (xS I L z) else (if xin a1 (8) then C 47 [.int (I 58 (Int32.toNatClampNeg a1)), .long a3] (xS I L z) (fun r τ => K 29 [some (.ref 57), some (.int a1), some (.int a2), some (.long a3), none] (r.toList ++ [.int ((a1 * 40) + a2), .ref 60]) τ b) else False)) := rfl
set_option maxRecDepth 100000 in
theorem b_X2_putElement_29 {C : xC} {Q : xQ} {K : xK} {I : xI} {L : xL} {z : Bool × Bool × Nat} {b : Nat × Nat} {a1 : Int32} {a2 : Int32} {a3 : Int64} {s1 : Int32} {s0 : Int64} :
  xrun k_X2_putElement 0 C Q [6, 29] K 2 29 [some (.ref 57), some (.int a1), some (.int a2), some (.long a3), none] [.long s0, .int s1, .ref 60] (xS I L z) b =
  (if xin s1 (320) then Q none (xS I (xwl L 60 (Int32.toNatClampNeg s1) s0) z) else False) := rfl
set_option maxRecDepth 100000 in
theorem b_X8_set_0 {C : xC} {Q : xQ} {K : xK} {I : xI} {L : xL} {z : Bool × Bool × Nat} {b : Nat × Nat} {a1 : Int32} {a2 : Int32} {a3 : Int64} :
  xrun k_X8_set 1 C Q [8, 21, 31, 40, 51] K 4 0 [some (.ref 9), some (.int a1), some (.int a2), some (.long a3), none, none] [] (xS I L z) b =
  C 40 [.ref 57, .int a1] (xS I L z) (fun r τ => K 8 [some (.ref 9), some (.int a1), some (.int a2), some (.long a3), none, none] (r.toList ++ []) τ b) := rfl
set_option maxRecDepth 100000 in
theorem b_X8_set_8 {C : xC} {Q : xQ} {K : xK} {I : xI} {L : xL} {z : Bool × Bool × Nat} {b : Nat × Nat} {a1 : Int32} {a2 : Int32} {a3 : Int64} {s0 : Int32} :
  xrun k_X8_set 1 C Q [8, 21, 31, 40, 51] K 8 8 [some (.ref 9), some (.int a1), some (.int a2), some (.long a3), none, none] [.int s0] (xS I L z) b =
  (if s0 = 0 then C 42 [.ref 57, .int a1, .int a2] (xS I L z) (fun r τ => K 31 [some (.ref 9), some (.int a1), some (.int a2), some (.long a3), none, some (.int s0)] (r.toList ++ []) τ b) else C 177 [.ref 9, .int s0] (xS I L z) (fun r τ => K 21 [some (.ref 9), some (.int a1), some (.int a2), some (.long a3), none, some (.int s0)] (r.toList ++ []) τ b)) := rfl
set_option maxRecDepth 100000 in
theorem b_X8_set_21 {C : xC} {Q : xQ} {K : xK} {I : xI} {L : xL} {z : Bool × Bool × Nat} {b : Nat × Nat} {a1 : Int32} {a2 : Int32} {a3 : Int64} {a5 : Int32} {s0 : Int32} :
  xrun k_X8_set 1 C Q [8, 21, 31, 40, 51] K 1 21 [some (.ref 9), some (.int a1), some (.int a2), some (.long a3), none, some (.int a5)] [.int s0] (xS I L z) b =
  Q (some (.int s0)) (xS I L z) := rfl
set_option maxRecDepth 100000 in
theorem b_X8_set_31 {C : xC} {Q : xQ} {K : xK} {I : xI} {L : xL} {z : Bool × Bool × Nat} {b : Nat × Nat} {a1 : Int32} {a2 : Int32} {a3 : Int64} {a5 : Int32} {s0 : Int32} :
  xrun k_X8_set 1 C Q [8, 21, 31, 40, 51] K 7 31 [some (.ref 9), some (.int a1), some (.int a2), some (.long a3), none, some (.int a5)] [.int s0] (xS I L z) b =
  (if s0 = 0 then C 177 [.ref 9, .int (-2 : Int32)] (xS I L z) (fun r τ => K 40 [some (.ref 9), some (.int a1), some (.int a2), some (.long a3), none, some (.int a5)] (r.toList ++ []) τ b) else C 46 [.ref 57, .int a1, .int a2, .long a3] (xS I L z) (fun r τ => K 51 [some (.ref 9), some (.int a1), some (.int a2), some (.long a3), none, some (.int a5)] (r.toList ++ []) τ b)) := rfl
set_option maxRecDepth 100000 in
theorem b_X8_set_40 {C : xC} {Q : xQ} {K : xK} {I : xI} {L : xL} {z : Bool × Bool × Nat} {b : Nat × Nat} {a1 : Int32} {a2 : Int32} {a3 : Int64} {a5 : Int32} {s0 : Int32} :
  xrun k_X8_set 1 C Q [8, 21, 31, 40, 51] K 1 40 [some (.ref 9), some (.int a1), some (.int a2), some (.long a3), none, some (.int a5)] [.int s0] (xS I L z) b =
  Q (some (.int s0)) (xS I L z) := rfl
set_option maxRecDepth 100000 in
theorem b_X8_set_51 {C : xC} {Q : xQ} {K : xK} {I : xI} {L : xL} {z : Bool × Bool × Nat} {b : Nat × Nat} {a1 : Int32} {a2 : Int32} {a3 : Int64} {a5 : Int32} :
  xrun k_X8_set 1 C Q [8, 21, 31, 40, 51] K 2 51 [some (.ref 9), some (.int a1), some (.int a2), some (.long a3), none, some (.int a5)] [] (xS I L z) b =
  Q (some (.int 1)) (xS I L z) := rfl
set_option maxRecDepth 100000 in
theorem b_X8_sort_0 {C : xC} {Q : xQ} {K : xK} {I : xI} {L : xL} {z : Bool × Bool × Nat} {b : Nat × Nat} {a1 : Int32} {a2 : Int32} {a3 : Int32} :
  xrun k_X8_sort 1 C Q [4, 11, 18, 27, 37, 49] K 2 0 [some (.ref 9), some (.int a1), some (.int a2), some (.int a3), none] [] (xS I L z) b =
  C 180 [.int a1] (xS I L z) (fun r τ => K 4 [some (.ref 9), some (.int a1), some (.int a2), some (.int a3), none] (r.toList ++ []) τ b) := rfl
set_option maxRecDepth 100000 in
theorem b_X8_sort_4 {C : xC} {Q : xQ} {K : xK} {I : xI} {L : xL} {z : Bool × Bool × Nat} {b : Nat × Nat} {a1 : Int32} {a2 : Int32} {a3 : Int32} {s0 : Int32} :
  xrun k_X8_sort 1 C Q [4, 11, 18, 27, 37, 49] K 4 4 [some (.ref 9), some (.int a1), some (.int a2), some (.int a3), none] [.int s0] (xS I L z) b =
  (if s0 = 0 then C 177 [.ref 9, .int (-2 : Int32)] (xS I L z) (fun r τ => K 27 [some (.ref 9), some (.int a1), some (.int a2), some (.int a3), none] (r.toList ++ []) τ b) else C 182 [.int a2] (xS I L z) (fun r τ => K 11 [some (.ref 9), some (.int a1), some (.int a2), some (.int a3), none] (r.toList ++ []) τ b)) := rfl
set_option maxRecDepth 100000 in
theorem b_X8_sort_11 {C : xC} {Q : xQ} {K : xK} {I : xI} {L : xL} {z : Bool × Bool × Nat} {b : Nat × Nat} {a1 : Int32} {a2 : Int32} {a3 : Int32} {s0 : Int32} :
  xrun k_X8_sort 1 C Q [4, 11, 18, 27, 37, 49] K 4 11 [some (.ref 9), some (.int a1), some (.int a2), some (.int a3), none] [.int s0] (xS I L z) b =
  (if s0 = 0 then C 177 [.ref 9, .int (-2 : Int32)] (xS I L z) (fun r τ => K 27 [some (.ref 9), some (.int a1), some (.int a2), some (.int a3), none] (r.toList ++ []) τ b) else C 181 [.int a3] (xS I L z) (fun r τ => K 18 [some (.ref 9), some (.int a1), some (.int a2), some (.int a3), none] (r.toList ++ []) τ b)) := rfl
set_option maxRecDepth 100000 in
theorem b_X8_sort_27 {C : xC} {Q : xQ} {K : xK} {I : xI} {L : xL} {z : Bool × Bool × Nat} {b : Nat × Nat} {a1 : Int32} {a2 : Int32} {a3 : Int32} {s0 : Int32} :
  xrun k_X8_sort 1 C Q [4, 11, 18, 27, 37, 49] K 1 27 [some (.ref 9), some (.int a1), some (.int a2), some (.int a3), none] [.int s0] (xS I L z) b =
  Q (some (.int s0)) (xS I L z) := rfl
set_option maxRecDepth 100000 in
theorem b_X8_sort_18 {C : xC} {Q : xQ} {K : xK} {I : xI} {L : xL} {z : Bool × Bool × Nat} {b : Nat × Nat} {a1 : Int32} {a2 : Int32} {a3 : Int32} {s0 : Int32} :
  xrun k_X8_sort 1 C Q [4, 11, 18, 27, 37, 49] K 6 18 [some (.ref 9), some (.int a1), some (.int a2), some (.int a3), none] [.int s0] (xS I L z) b =
  (if s0 = 0 then C 177 [.ref 9, .int (-2 : Int32)] (xS I L z) (fun r τ => K 27 [some (.ref 9), some (.int a1), some (.int a2), some (.int a3), none] (r.toList ++ []) τ b) else C 96 [.ref 10, .int a2, .int a1] (xS I L z) (fun r τ => K 37 [some (.ref 9), some (.int a1), some (.int a2), some (.int a3), none] (r.toList ++ []) τ b)) := rfl
set_option maxRecDepth 100000 in
theorem b_X8_sort_37 {C : xC} {Q : xQ} {K : xK} {I : xI} {L : xL} {z : Bool × Bool × Nat} {b : Nat × Nat} {a1 : Int32} {a2 : Int32} {a3 : Int32} {s0 : Int32} :
  xrun k_X8_sort 1 C Q [4, 11, 18, 27, 37, 49] K 7 37 [some (.ref 9), some (.int a1), some (.int a2), some (.int a3), none] [.int s0] (xS I L z) b =
  C 91 [.ref 10, .int a1, .int a2, .int a3] (xS I L z) (fun r τ => K 49 [some (.ref 9), some (.int a1), some (.int a2), some (.int a3), some (.int s0)] (r.toList ++ []) τ b) := rfl
set_option maxRecDepth 100000 in
theorem b_X8_sort_49 {C : xC} {Q : xQ} {K : xK} {I : xI} {L : xL} {z : Bool × Bool × Nat} {b : Nat × Nat} {a1 : Int32} {a2 : Int32} {a3 : Int32} {a4 : Int32} :
  xrun k_X8_sort 1 C Q [4, 11, 18, 27, 37, 49] K 2 49 [some (.ref 9), some (.int a1), some (.int a2), some (.int a3), some (.int a4)] [] (xS I L z) b =
  Q (some (.int a4)) (xS I L z) := rfl
set_option maxRecDepth 100000 in
theorem b_X8_guest_0 {C : xC} {Q : xQ} {K : xK} {I : xI} {L : xL} {z : Bool × Bool × Nat} {b : Nat × Nat} {a1 : Int32} {a2 : Int32} {a3 : Int32} :
  xrun k_X8_guest 1 C Q [8, 20, 27, 36, 47] K 4 0 [some (.ref 9), some (.int a1), some (.int a2), some (.int a3)] [] (xS I L z) b =
  C 82 [.ref 10, .int a1] (xS I L z) (fun r τ => K 8 [some (.ref 9), some (.int a1), some (.int a2), some (.int a3)] (r.toList ++ []) τ b) := rfl
set_option maxRecDepth 100000 in
theorem b_X8_guest_8 {C : xC} {Q : xQ} {K : xK} {I : xI} {L : xL} {z : Bool × Bool × Nat} {b : Nat × Nat} {a1 : Int32} {a2 : Int32} {a3 : Int32} {s0 : Int32} :
  xrun k_X8_guest 1 C Q [8, 20, 27, 36, 47] K 6 8 [some (.ref 9), some (.int a1), some (.int a2), some (.int a3)] [.int s0] (xS I L z) b =
  (if s0 = 0 then C 177 [.ref 9, .int (-2 : Int32)] (xS I L z) (fun r τ => K 36 [some (.ref 9), some (.int a1), some (.int a2), some (.int a3)] (r.toList ++ []) τ b) else (if a2 = (-1 : Int32) then C 181 [.int a3] (xS I L z) (fun r τ => K 27 [some (.ref 9), some (.int a1), some (.int a2), some (.int a3)] (r.toList ++ []) τ b) else C 180 [.int a2] (xS I L z) (fun r τ => K 20 [some (.ref 9), some (.int a1), some (.int a2), some (.int a3)] (r.toList ++ []) τ b))) := rfl
set_option maxRecDepth 100000 in
theorem b_X8_guest_20 {C : xC} {Q : xQ} {K : xK} {I : xI} {L : xL} {z : Bool × Bool × Nat} {b : Nat × Nat} {a1 : Int32} {a2 : Int32} {a3 : Int32} {s0 : Int32} :
  xrun k_X8_guest 1 C Q [8, 20, 27, 36, 47] K 4 20 [some (.ref 9), some (.int a1), some (.int a2), some (.int a3)] [.int s0] (xS I L z) b =
  (if s0 = 0 then C 177 [.ref 9, .int (-2 : Int32)] (xS I L z) (fun r τ => K 36 [some (.ref 9), some (.int a1), some (.int a2), some (.int a3)] (r.toList ++ []) τ b) else C 181 [.int a3] (xS I L z) (fun r τ => K 27 [some (.ref 9), some (.int a1), some (.int a2), some (.int a3)] (r.toList ++ []) τ b)) := rfl
set_option maxRecDepth 100000 in
theorem b_X8_guest_27 {C : xC} {Q : xQ} {K : xK} {I : xI} {L : xL} {z : Bool × Bool × Nat} {b : Nat × Nat} {a1 : Int32} {a2 : Int32} {a3 : Int32} {s0 : Int32} :
  xrun k_X8_guest 1 C Q [8, 20, 27, 36, 47] K 7 27 [some (.ref 9), some (.int a1), some (.int a2), some (.int a3)] [.int s0] (xS I L z) b =
  (if s0 = 0 then C 177 [.ref 9, .int (-2 : Int32)] (xS I L z) (fun r τ => K 36 [some (.ref 9), some (.int a1), some (.int a2), some (.int a3)] (r.toList ++ []) τ b) else C 92 [.ref 10, .int a1, .int a2, .int a3] (xS I L z) (fun r τ => K 47 [some (.ref 9), some (.int a1), some (.int a2), some (.int a3)] (r.toList ++ []) τ b)) := rfl
set_option maxRecDepth 100000 in
theorem b_X8_guest_36 {C : xC} {Q : xQ} {K : xK} {I : xI} {L : xL} {z : Bool × Bool × Nat} {b : Nat × Nat} {a1 : Int32} {a2 : Int32} {a3 : Int32} {s0 : Int32} :
  xrun k_X8_guest 1 C Q [8, 20, 27, 36, 47] K 1 36 [some (.ref 9), some (.int a1), some (.int a2), some (.int a3)] [.int s0] (xS I L z) b =
  Q (some (.int s0)) (xS I L z) := rfl
set_option maxRecDepth 100000 in
theorem b_X8_guest_47 {C : xC} {Q : xQ} {K : xK} {I : xI} {L : xL} {z : Bool × Bool × Nat} {b : Nat × Nat} {a1 : Int32} {a2 : Int32} {a3 : Int32} :
  xrun k_X8_guest 1 C Q [8, 20, 27, 36, 47] K 2 47 [some (.ref 9), some (.int a1), some (.int a2), some (.int a3)] [] (xS I L z) b =
  Q (some (.int 1)) (xS I L z) := rfl
set_option maxRecDepth 100000 in
theorem b_X8_teller_0 {C : xC} {Q : xQ} {K : xK} {I : xI} {L : xL} {z : Bool × Bool × Nat} {b : Nat × Nat} {a1 : Int32} {a2 : Int32} :
  xrun k_X8_teller 1 C Q [4, 11, 20, 38, 48] K 2 0 [some (.ref 9), some (.int a1), some (.int a2)] [] (xS I L z) b =
  C 73 [.int a1] (xS I L z) (fun r τ => K 4 [some (.ref 9), some (.int a1), some (.int a2)] (r.toList ++ []) τ b) := rfl
set_option maxRecDepth 100000 in
theorem b_X8_teller_4 {C : xC} {Q : xQ} {K : xK} {I : xI} {L : xL} {z : Bool × Bool × Nat} {b : Nat × Nat} {a1 : Int32} {a2 : Int32} {s0 : Int32} :
  xrun k_X8_teller 1 C Q [4, 11, 20, 38, 48] K 4 4 [some (.ref 9), some (.int a1), some (.int a2)] [.int s0] (xS I L z) b =
  (if s0 = 0 then C 177 [.ref 9, .int (-2 : Int32)] (xS I L z) (fun r τ => K 20 [some (.ref 9), some (.int a1), some (.int a2)] (r.toList ++ []) τ b) else C 181 [.int a2] (xS I L z) (fun r τ => K 11 [some (.ref 9), some (.int a1), some (.int a2)] (r.toList ++ []) τ b)) := rfl
set_option maxRecDepth 100000 in
theorem b_X8_teller_11 {C : xC} {Q : xQ} {K : xK} {I : xI} {L : xL} {z : Bool × Bool × Nat} {b : Nat × Nat} {a1 : Int32} {a2 : Int32} {s0 : Int32} :
  xrun k_X8_teller 1 C Q [4, 11, 20, 38, 48] K 11 11 [some (.ref 9), some (.int a1), some (.int a2)] [.int s0] (xS I L z) b =
  (if s0 = 0 then C 177 [.ref 9, .int (-2 : Int32)] (xS I L z) (fun r τ => K 20 [some (.ref 9), some (.int a1), some (.int a2)] (r.toList ++ []) τ b) else (if (I 10 4) < 4 then C 86 [.ref 10, .int a1, .int a2] (xS I L z) (fun r τ => K 48 [some (.ref 9), some (.int a1), some (.int a2)] (r.toList ++ []) τ b) else C 177 [.ref 9, .int (-6 : Int32)] (xS I L z) (fun r τ => K 38 [some (.ref 9), some (.int a1), some (.int a2)] (r.toList ++ []) τ b))) := rfl
set_option maxRecDepth 100000 in
theorem b_X8_teller_20 {C : xC} {Q : xQ} {K : xK} {I : xI} {L : xL} {z : Bool × Bool × Nat} {b : Nat × Nat} {a1 : Int32} {a2 : Int32} {s0 : Int32} :
  xrun k_X8_teller 1 C Q [4, 11, 20, 38, 48] K 1 20 [some (.ref 9), some (.int a1), some (.int a2)] [.int s0] (xS I L z) b =
  Q (some (.int s0)) (xS I L z) := rfl
set_option maxRecDepth 100000 in
theorem b_X8_teller_38 {C : xC} {Q : xQ} {K : xK} {I : xI} {L : xL} {z : Bool × Bool × Nat} {b : Nat × Nat} {a1 : Int32} {a2 : Int32} {s0 : Int32} :
  xrun k_X8_teller 1 C Q [4, 11, 20, 38, 48] K 1 38 [some (.ref 9), some (.int a1), some (.int a2)] [.int s0] (xS I L z) b =
  Q (some (.int s0)) (xS I L z) := rfl
set_option maxRecDepth 100000 in
theorem b_X8_teller_48 {C : xC} {Q : xQ} {K : xK} {I : xI} {L : xL} {z : Bool × Bool × Nat} {b : Nat × Nat} {a1 : Int32} {a2 : Int32} {s0 : Int32} :
  xrun k_X8_teller 1 C Q [4, 11, 20, 38, 48] K 1 48 [some (.ref 9), some (.int a1), some (.int a2)] [.int s0] (xS I L z) b =
  Q (some (.int s0)) (xS I L z) := rfl
