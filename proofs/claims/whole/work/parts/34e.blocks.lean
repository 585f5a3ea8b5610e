set_option maxRecDepth 100000 in
theorem b_X9_whoHas_0 {C : xC} {Q : xQ} {K : xK} {I : xI} {L : xL} {z : Bool × Bool × Nat} {b : Nat × Nat} {a1 : Int32} :
  xrun k_X9_whoHas 1 C Q [2] K 2 0 [some (.ref 66), some (.int a1), none] [] (xS I L z) b =
  K 2 [some (.ref 66), some (.int a1), some (.int 0)] [] (xS I L z) b := rfl
set_option maxRecDepth 100000 in
theorem b_X9_whoHas_2 {C : xC} {Q : xQ} {K : xK} {I : xI} {L : xL} {z : Bool × Bool × Nat} {b : Nat × Nat} {a1 : Int32} {a2 : Int32} :
  xrun k_X9_whoHas 1 C Q [2] K 8 2 [some (.ref 66), some (.int a1), some (.int a2)] [] (xS I L z) b =
  (if xin a2 (6) then (if (I 109 (Int32.toNatClampNeg a2)) = a1 then Q (some (.int a2)) (xS I L z) else K 2 [some (.ref 66), some (.int a1), some (.int (a2 + 1))] [] (xS I L z) b) else False) := rfl
set_option maxRecDepth 100000 in
theorem b_X9_seekSwaps_0 {C : xC} {Q : xQ} {K : xK} {I : xI} {L : xL} {z : Bool × Bool × Nat} {b : Nat × Nat} {a1 : Int32} {a2 : Int32} :
  xrun k_X9_seekSwaps 0 C Q [12, 44, 57, 71, 93] K 6 0 [some (.ref 66), some (.int a1), some (.int a2), none] [] (xS I L z) b =
  (if a1 = (I 66 9) then C 273 [.ref 66] (xS I L z) (fun r τ => K 12 [some (.ref 66), some (.int a1), some (.int a2), none] (r.toList ++ []) τ b) else K 44 [some (.ref 66), some (.int a1), some (.int a2), some (.int 0)] [] (xS I L z) b) := rfl
set_option maxRecDepth 100000 in
theorem b_X9_seekSwaps_12 {C : xC} {Q : xQ} {K : xK} {I : xI} {L : xL} {z : Bool × Bool × Nat} {b : Nat × Nat} {a1 : Int32} {a2 : Int32} {s0 : Int32} :
  xrun k_X9_seekSwaps 0 C Q [12, 44, 57, 71, 93] K 14 12 [some (.ref 66), some (.int a1), some (.int a2), none] [.int s0] (xS I L z) b =
  (if (I 66 41) = (-1 : Int32) then Q none (xS (xw I 66 41 s0) L z) else (if s0 < (I 66 41) then Q none (xS (xw I 66 41 s0) L z) else Q none (xS (xw I 66 41 (I 66 41)) L z))) := rfl
set_option maxRecDepth 100000 in
theorem b_X9_seekSwaps_44 {C : xC} {Q : xQ} {K : xK} {I : xI} {L : xL} {z : Bool × Bool × Nat} {b : Nat × Nat} {a1 : Int32} {a2 : Int32} {a3 : Int32} :
  xrun k_X9_seekSwaps 0 C Q [12, 44, 57, 71, 93] K 7 44 [some (.ref 66), some (.int a1), some (.int a2), some (.int a3)] [] (xS I L z) b =
  (if a3 < (I 66 9) then C 191 [.int a2, .int a3] (xS I L z) (fun r τ => K 57 [some (.ref 66), some (.int a1), some (.int a2), some (.int a3)] (r.toList ++ []) τ b) else Q none (xS I L z)) := rfl
set_option maxRecDepth 100000 in
theorem b_X9_seekSwaps_57 {C : xC} {Q : xQ} {K : xK} {I : xI} {L : xL} {z : Bool × Bool × Nat} {b : Nat × Nat} {a1 : Int32} {a2 : Int32} {a3 : Int32} {s0 : Int32} :
  xrun k_X9_seekSwaps 0 C Q [12, 44, 57, 71, 93] K 8 57 [some (.ref 66), some (.int a1), some (.int a2), some (.int a3)] [.int s0] (xS I L z) b =
  (if s0 = 0 then (if xin a3 (6) then C 266 [.ref 66, .int a1, .int (I 84 (Int32.toNatClampNeg a3))] (xS I L z) (fun r τ => K 71 [some (.ref 66), some (.int a1), some (.int a2), some (.int a3)] (r.toList ++ []) τ b) else False) else K 93 [some (.ref 66), some (.int a1), some (.int a2), some (.int a3)] [] (xS I L z) b) := rfl
set_option maxRecDepth 100000 in
theorem b_X9_seekSwaps_71 {C : xC} {Q : xQ} {K : xK} {I : xI} {L : xL} {z : Bool × Bool × Nat} {b : Nat × Nat} {a1 : Int32} {a2 : Int32} {a3 : Int32} {s0 : Int32} :
  xrun k_X9_seekSwaps 0 C Q [12, 44, 57, 71, 93] K 16 71 [some (.ref 66), some (.int a1), some (.int a2), some (.int a3)] [.int s0] (xS I L z) b =
  (if s0 = 0 then (if xin a1 (6) then C 275 [.ref 66, .int (a1 + 1), .int (a2 ||| (1 <<< (a3 &&& 31)))] (xS (xw I 111 (Int32.toNatClampNeg a1) a3) L z) (fun r τ => K 93 [some (.ref 66), some (.int a1), some (.int a2), some (.int a3)] (r.toList ++ []) τ b) else False) else K 93 [some (.ref 66), some (.int a1), some (.int a2), some (.int a3)] [] (xS I L z) b) := rfl
set_option maxRecDepth 100000 in
theorem b_X9_seekSwaps_93 {C : xC} {Q : xQ} {K : xK} {I : xI} {L : xL} {z : Bool × Bool × Nat} {b : Nat × Nat} {a1 : Int32} {a2 : Int32} {a3 : Int32} :
  xrun k_X9_seekSwaps 0 C Q [12, 44, 57, 71, 93] K 2 93 [some (.ref 66), some (.int a1), some (.int a2), some (.int a3)] [] (xS I L z) b =
  K 44 [some (.ref 66), some (.int a1), some (.int a2), some (.int (a3 + 1))] [] (xS I L z) b := rfl
set_option maxRecDepth 100000 in
theorem b_X9_handing_0 {C : xC} {Q : xQ} {K : xK} {I : xI} {L : xL} {z : Bool × Bool × Nat} {b : Nat × Nat} {a1 : Int32} {a2 : Int32} :
  xrun k_X9_handing 1 C Q [9, 21, 30, 36, 53, 63, 100, 108, 120, 128, 157] K 5 0 [some (.ref 66), some (.int a1), some (.int a2), none, none, none] [] (xS I L z) b =
  C 188 [.long (Int32.toInt64 a1), .long (Int64.ofNat 0), .long (Int64.ofNat 7)] (xS I L z) (fun r τ => K 9 [some (.ref 66), some (.int a1), some (.int a2), none, none, none] (r.toList ++ []) τ b) := rfl
set_option maxRecDepth 100000 in
theorem b_X9_handing_9 {C : xC} {Q : xQ} {K : xK} {I : xI} {L : xL} {z : Bool × Bool × Nat} {b : Nat × Nat} {a1 : Int32} {a2 : Int32} {s0 : Int32} :
  xrun k_X9_handing 1 C Q [9, 21, 30, 36, 53, 63, 100, 108, 120, 128, 157] K 6 9 [some (.ref 66), some (.int a1), some (.int a2), none, none, none] [.int s0] (xS I L z) b =
  (if s0 = 0 then C 187 [.ref 66, .int (-2 : Int32)] (xS I L z) (fun r τ => K 30 [some (.ref 66), some (.int a1), some (.int a2), none, none, none] (r.toList ++ []) τ b) else C 188 [.long (Int32.toInt64 a2), .long (Int64.ofNat 0), .long (Int64.ofNat 2)] (xS I L z) (fun r τ => K 21 [some (.ref 66), some (.int a1), some (.int a2), none, none, none] (r.toList ++ []) τ b)) := rfl
set_option maxRecDepth 100000 in
theorem b_X9_handing_21 {C : xC} {Q : xQ} {K : xK} {I : xI} {L : xL} {z : Bool × Bool × Nat} {b : Nat × Nat} {a1 : Int32} {a2 : Int32} {s0 : Int32} :
  xrun k_X9_handing 1 C Q [9, 21, 30, 36, 53, 63, 100, 108, 120, 128, 157] K 4 21 [some (.ref 66), some (.int a1), some (.int a2), none, none, none] [.int s0] (xS I L z) b =
  (if s0 = 0 then C 187 [.ref 66, .int (-2 : Int32)] (xS I L z) (fun r τ => K 30 [some (.ref 66), some (.int a1), some (.int a2), none, none, none] (r.toList ++ []) τ b) else C 207 [.ref 66, .int a1] (xS I L z) (fun r τ => K 36 [some (.ref 66), some (.int a1), some (.int a2), none, none, none] (r.toList ++ []) τ b)) := rfl
set_option maxRecDepth 100000 in
theorem b_X9_handing_30 {C : xC} {Q : xQ} {K : xK} {I : xI} {L : xL} {z : Bool × Bool × Nat} {b : Nat × Nat} {a1 : Int32} {a2 : Int32} {s0 : Int32} :
  xrun k_X9_handing 1 C Q [9, 21, 30, 36, 53, 63, 100, 108, 120, 128, 157] K 1 30 [some (.ref 66), some (.int a1), some (.int a2), none, none, none] [.int s0] (xS I L z) b =
  Q (some (.int s0)) (xS I L z) := rfl
set_option maxRecDepth 100000 in
theorem b_X9_handing_36 {C : xC} {Q : xQ} {K : xK} {I : xI} {L : xL} {z : Bool × Bool × Nat} {b : Nat × Nat} {a1 : Int32} {a2 : Int32} {s0 : Int32} :
  xrun k_X9_handing 1 C Q [9, 21, 30, 36, 53, 63, 100, 108, 120, 128, 157] K 9 36 [some (.ref 66), some (.int a1), some (.int a2), none, none, none] [.int s0] (xS I L z) b =
  (if s0 = 0 then (if xin a1 (8) then C 271 [.ref 66, .ref (70 + 1 + Int32.toNatClampNeg a1)] (xS I L z) (fun r τ => K 53 [some (.ref 66), some (.int a1), some (.int a2), some (.int s0), none, none] (r.toList ++ []) τ b) else False) else Q (some (.int s0)) (xS I L z)) := rfl
set_option maxRecDepth 100000 in
theorem b_X9_handing_53 {C : xC} {Q : xQ} {K : xK} {I : xI} {L : xL} {z : Bool × Bool × Nat} {b : Nat × Nat} {a1 : Int32} {a2 : Int32} {a3 : Int32} {s0 : Int32} :
  xrun k_X9_handing 1 C Q [9, 21, 30, 36, 53, 63, 100, 108, 120, 128, 157] K 13 53 [some (.ref 66), some (.int a1), some (.int a2), some (.int a3), none, none] [.int s0] (xS I L z) b =
  (if s0 = (-1 : Int32) then (if a2 = 0 then C 244 [.ref 66] (xS I L z) (fun r τ => K 100 [some (.ref 66), some (.int a1), some (.int a2), some (.int a3), some (.int 0), none] (r.toList ++ []) τ b) else (if a2 = 1 then C 275 [.ref 66, .int 0, .int 0] (xS (xw I 66 41 (-1 : Int32)) L z) (fun r τ => K 120 [some (.ref 66), some (.int a1), some (.int a2), some (.int a3), some (.int 0), none] (r.toList ++ []) τ b) else K 128 [some (.ref 66), some (.int a1), some (.int a2), some (.int a3), some (.int 0), some (.int 0)] [] (xS I L z) b)) else C 187 [.ref 66, .int (-5 : Int32)] (xS I L z) (fun r τ => K 63 [some (.ref 66), some (.int a1), some (.int a2), some (.int a3), none, none] (r.toList ++ []) τ b)) := rfl
set_option maxRecDepth 100000 in
theorem b_X9_handing_63 {C : xC} {Q : xQ} {K : xK} {I : xI} {L : xL} {z : Bool × Bool × Nat} {b : Nat × Nat} {a1 : Int32} {a2 : Int32} {a3 : Int32} {s0 : Int32} :
  xrun k_X9_handing 1 C Q [9, 21, 30, 36, 53, 63, 100, 108, 120, 128, 157] K 1 63 [some (.ref 66), some (.int a1), some (.int a2), some (.int a3), none, none] [.int s0] (xS I L z) b =
  Q (some (.int s0)) (xS I L z) := rfl
set_option maxRecDepth 100000 in
theorem b_X9_handing_100 {C : xC} {Q : xQ} {K : xK} {I : xI} {L : xL} {z : Bool × Bool × Nat} {b : Nat × Nat} {a1 : Int32} {a2 : Int32} {a3 : Int32} {a4 : Int32} :
  xrun k_X9_handing 1 C Q [9, 21, 30, 36, 53, 63, 100, 108, 120, 128, 157] K 4 100 [some (.ref 66), some (.int a1), some (.int a2), some (.int a3), some (.int a4), none] [] (xS I L z) b =
  C 268 [.ref 66, .ref 109] (xS I L z) (fun r τ => K 108 [some (.ref 66), some (.int a1), some (.int a2), some (.int a3), some (.int a4), none] (r.toList ++ []) τ b) := rfl
set_option maxRecDepth 100000 in
theorem b_X9_handing_120 {C : xC} {Q : xQ} {K : xK} {I : xI} {L : xL} {z : Bool × Bool × Nat} {b : Nat × Nat} {a1 : Int32} {a2 : Int32} {a3 : Int32} {a4 : Int32} :
  xrun k_X9_handing 1 C Q [9, 21, 30, 36, 53, 63, 100, 108, 120, 128, 157] K 3 120 [some (.ref 66), some (.int a1), some (.int a2), some (.int a3), some (.int a4), none] [] (xS I L z) b =
  Q (some (.int (I 66 41))) (xS I L z) := rfl
set_option maxRecDepth 100000 in
theorem b_X9_handing_128 {C : xC} {Q : xQ} {K : xK} {I : xI} {L : xL} {z : Bool × Bool × Nat} {b : Nat × Nat} {a1 : Int32} {a2 : Int32} {a3 : Int32} {a4 : Int32} {a5 : Int32} :
  xrun k_X9_handing 1 C Q [9, 21, 30, 36, 53, 63, 100, 108, 120, 128, 157] K 15 128 [some (.ref 66), some (.int a1), some (.int a2), some (.int a3), some (.int a4), some (.int a5)] [] (xS I L z) b =
  (if a5 < (I 66 9) then (if xin a5 (6) then (if xin (I 109 (Int32.toNatClampNeg a5)) (6) then C 266 [.ref 66, .int a5, .int (I 84 (Int32.toNatClampNeg (I 109 (Int32.toNatClampNeg a5))))] (xS I L z) (fun r τ => K 157 [some (.ref 66), some (.int a1), some (.int a2), some (.int a3), some (.int a4), some (.int a5)] (r.toList ++ [.int a4]) τ b) else False) else False) else Q (some (.int a4)) (xS I L z)) := rfl
set_option maxRecDepth 100000 in
theorem b_X9_handing_108 {C : xC} {Q : xQ} {K : xK} {I : xI} {L : xL} {z : Bool × Bool × Nat} {b : Nat × Nat} {a1 : Int32} {a2 : Int32} {a3 : Int32} {a4 : Int32} {s0 : Int32} :
  xrun k_X9_handing 1 C Q [9, 21, 30, 36, 53, 63, 100, 108, 120, 128, 157] K 1 108 [some (.ref 66), some (.int a1), some (.int a2), some (.int a3), some (.int a4), none] [.int s0] (xS I L z) b =
  Q (some (.int s0)) (xS I L z) := rfl
set_option maxRecDepth 100000 in
theorem b_X9_handing_157 {C : xC} {Q : xQ} {K : xK} {I : xI} {L : xL} {z : Bool × Bool × Nat} {b : Nat × Nat} {a1 : Int32} {a2 : Int32} {a3 : Int32} {a4 : Int32} {a5 : Int32} {s1 : Int32} {s0 : Int32} :
  xrun k_X9_handing 1 C Q [9, 21, 30, 36, 53, 63, 100, 108, 120, 128, 157] K 10 157 [some (.ref 66), some (.int a1), some (.int a2), some (.int a3), some (.int a4), some (.int a5)] [.int s0, .int s1] (xS I L z) b =
  (if s0 = 0 then K 128 [some (.ref 66), some (.int a1), some (.int a2), some (.int a3), some (.int (s1 + 0)), some (.int (a5 + 1))] [] (xS I L z) b else (if xin a5 (6) then K 128 [some (.ref 66), some (.int a1), some (.int a2), some (.int a3), some (.int (s1 + (I 93 (Int32.toNatClampNeg a5)))), some (.int (a5 + 1))] [] (xS I L z) b else False)) := rfl
set_option maxRecDepth 100000 in
theorem b_X9_best_0 {C : xC} {Q : xQ} {K : xK} {I : xI} {L : xL} {z : Bool × Bool × Nat} {b : Nat × Nat} {a1 : Int32} :
  xrun k_X9_best 1 C Q [11, 20, 25, 29] K 7 0 [some (.ref 66), some (.int a1)] [] (xS I L z) b =
  (if a1 = (-1 : Int32) then C 244 [.ref 66] (xS I L z) (fun r τ => K 25 [some (.ref 66), some (.int a1)] (r.toList ++ []) τ b) else C 189 [.ref 66, .long (Int32.toInt64 a1)] (xS I L z) (fun r τ => K 11 [some (.ref 66), some (.int a1)] (r.toList ++ []) τ b)) := rfl
set_option maxRecDepth 100000 in
theorem b_X9_best_11 {C : xC} {Q : xQ} {K : xK} {I : xI} {L : xL} {z : Bool × Bool × Nat} {b : Nat × Nat} {a1 : Int32} {s0 : Int32} :
  xrun k_X9_best 1 C Q [11, 20, 25, 29] K 4 11 [some (.ref 66), some (.int a1)] [.int s0] (xS I L z) b =
  (if s0 = 0 then C 187 [.ref 66, .int (-2 : Int32)] (xS I L z) (fun r τ => K 20 [some (.ref 66), some (.int a1)] (r.toList ++ []) τ b) else C 244 [.ref 66] (xS I L z) (fun r τ => K 25 [some (.ref 66), some (.int a1)] (r.toList ++ []) τ b)) := rfl
set_option maxRecDepth 100000 in
theorem b_X9_best_25 {C : xC} {Q : xQ} {K : xK} {I : xI} {L : xL} {z : Bool × Bool × Nat} {b : Nat × Nat} {a1 : Int32} :
  xrun k_X9_best 1 C Q [11, 20, 25, 29] K 2 25 [some (.ref 66), some (.int a1)] [] (xS I L z) b =
  C 270 [.ref 66] (xS I L z) (fun r τ => K 29 [some (.ref 66), some (.int a1)] (r.toList ++ []) τ b) := rfl
set_option maxRecDepth 100000 in
theorem b_X9_best_20 {C : xC} {Q : xQ} {K : xK} {I : xI} {L : xL} {z : Bool × Bool × Nat} {b : Nat × Nat} {a1 : Int32} {s0 : Int32} :
  xrun k_X9_best 1 C Q [11, 20, 25, 29] K 1 20 [some (.ref 66), some (.int a1)] [.int s0] (xS I L z) b =
  Q (some (.int s0)) (xS I L z) := rfl
set_option maxRecDepth 100000 in
theorem b_X9_best_29 {C : xC} {Q : xQ} {K : xK} {I : xI} {L : xL} {z : Bool × Bool × Nat} {b : Nat × Nat} {a1 : Int32} :
  xrun k_X9_best 1 C Q [11, 20, 25, 29] K 8 29 [some (.ref 66), some (.int a1)] [] (xS I L z) b =
  (if a1 = (-1 : Int32) then Q (some (.int (I 66 39))) (xS I L z) else (if xin a1 (6) then Q (some (.int (I 110 (Int32.toNatClampNeg a1)))) (xS I L z) else False)) := rfl
set_option maxRecDepth 100000 in
theorem b_X9_mind_0 {C : xC} {Q : xQ} {K : xK} {I : xI} {L : xL} {z : Bool × Bool × Nat} {b : Nat × Nat} {a1 : Int32} {a2 : Int32} :
  xrun k_X9_mind 1 C Q [6, 15, 24, 29, 35] K 4 0 [some (.ref 66), some (.int a1), some (.int a2)] [] (xS I L z) b =
  C 189 [.ref 66, .long (Int32.toInt64 a1)] (xS I L z) (fun r τ => K 6 [some (.ref 66), some (.int a1), some (.int a2)] (r.toList ++ []) τ b) := rfl
set_option maxRecDepth 100000 in
theorem b_X9_mind_6 {C : xC} {Q : xQ} {K : xK} {I : xI} {L : xL} {z : Bool × Bool × Nat} {b : Nat × Nat} {a1 : Int32} {a2 : Int32} {s0 : Int32} :
  xrun k_X9_mind 1 C Q [6, 15, 24, 29, 35] K 5 6 [some (.ref 66), some (.int a1), some (.int a2)] [.int s0] (xS I L z) b =
  (if s0 = 0 then C 187 [.ref 66, .int (-2 : Int32)] (xS I L z) (fun r τ => K 24 [some (.ref 66), some (.int a1), some (.int a2)] (r.toList ++ []) τ b) else C 189 [.ref 66, .long (Int32.toInt64 a2)] (xS I L z) (fun r τ => K 15 [some (.ref 66), some (.int a1), some (.int a2)] (r.toList ++ []) τ b)) := rfl
set_option maxRecDepth 100000 in
theorem b_X9_mind_15 {C : xC} {Q : xQ} {K : xK} {I : xI} {L : xL} {z : Bool × Bool × Nat} {b : Nat × Nat} {a1 : Int32} {a2 : Int32} {s0 : Int32} :
  xrun k_X9_mind 1 C Q [6, 15, 24, 29, 35] K 4 15 [some (.ref 66), some (.int a1), some (.int a2)] [.int s0] (xS I L z) b =
  (if s0 = 0 then C 187 [.ref 66, .int (-2 : Int32)] (xS I L z) (fun r τ => K 24 [some (.ref 66), some (.int a1), some (.int a2)] (r.toList ++ []) τ b) else C 244 [.ref 66] (xS I L z) (fun r τ => K 29 [some (.ref 66), some (.int a1), some (.int a2)] (r.toList ++ []) τ b)) := rfl
set_option maxRecDepth 100000 in
theorem b_X9_mind_24 {C : xC} {Q : xQ} {K : xK} {I : xI} {L : xL} {z : Bool × Bool × Nat} {b : Nat × Nat} {a1 : Int32} {a2 : Int32} {s0 : Int32} :
  xrun k_X9_mind 1 C Q [6, 15, 24, 29, 35] K 1 24 [some (.ref 66), some (.int a1), some (.int a2)] [.int s0] (xS I L z) b =
  Q (some (.int s0)) (xS I L z) := rfl
set_option maxRecDepth 100000 in
theorem b_X9_mind_29 {C : xC} {Q : xQ} {K : xK} {I : xI} {L : xL} {z : Bool × Bool × Nat} {b : Nat × Nat} {a1 : Int32} {a2 : Int32} :
  xrun k_X9_mind 1 C Q [6, 15, 24, 29, 35] K 4 29 [some (.ref 66), some (.int a1), some (.int a2)] [] (xS I L z) b =
  C 267 [.ref 66, .int a1, .int a2] (xS I L z) (fun r τ => K 35 [some (.ref 66), some (.int a1), some (.int a2)] (r.toList ++ []) τ b) := rfl
set_option maxRecDepth 100000 in
theorem b_X9_mind_35 {C : xC} {Q : xQ} {K : xK} {I : xI} {L : xL} {z : Bool × Bool × Nat} {b : Nat × Nat} {a1 : Int32} {a2 : Int32} {s0 : Int32} :
  xrun k_X9_mind 1 C Q [6, 15, 24, 29, 35] K 1 35 [some (.ref 66), some (.int a1), some (.int a2)] [.int s0] (xS I L z) b =
  Q (some (.int s0)) (xS I L z) := rfl
set_option maxRecDepth 100000 in
theorem b_X9_firstUnknown_0 {C : xC} {Q : xQ} {K : xK} {I : xI} {L : xL} {z : Bool × Bool × Nat} {b : Nat × Nat}  :
  xrun k_X9_firstUnknown 1 C Q [2, 7] K 2 0 [some (.ref 66), none] [] (xS I L z) b =
  K 2 [some (.ref 66), some (.int 0)] [] (xS I L z) b := rfl
set_option maxRecDepth 100000 in
theorem b_X9_firstUnknown_2 {C : xC} {Q : xQ} {K : xK} {I : xI} {L : xL} {z : Bool × Bool × Nat} {b : Nat × Nat} {a1 : Int32} :
  xrun k_X9_firstUnknown 1 C Q [2, 7] K 3 2 [some (.ref 66), some (.int a1)] [] (xS I L z) b =
  C 250 [.ref 66, .int a1] (xS I L z) (fun r τ => K 7 [some (.ref 66), some (.int a1)] (r.toList ++ []) τ b) := rfl
set_option maxRecDepth 100000 in
theorem b_X9_firstUnknown_7 {C : xC} {Q : xQ} {K : xK} {I : xI} {L : xL} {z : Bool × Bool × Nat} {b : Nat × Nat} {a1 : Int32} {s0 : Int32} :
  xrun k_X9_firstUnknown 1 C Q [2, 7] K 3 7 [some (.ref 66), some (.int a1)] [.int s0] (xS I L z) b =
  (if s0 = 0 then Q (some (.int a1)) (xS I L z) else K 2 [some (.ref 66), some (.int (a1 + 1))] [] (xS I L z) b) := rfl
set_option maxRecDepth 100000 in
theorem b_X9_turnerSays_0 {C : xC} {Q : xQ} {K : xK} {I : xI} {L : xL} {z : Bool × Bool × Nat} {b : Nat × Nat}  :
  xrun k_X9_turnerSays 1 C Q [4, 18, 24, 45] K 4 0 [some (.ref 66), none, none] [] (xS I L z) b =
  K 4 [some (.ref 66), some (.int 0), some (.int 1)] [] (xS I L z) b := rfl
set_option maxRecDepth 100000 in
theorem b_X9_turnerSays_4 {C : xC} {Q : xQ} {K : xK} {I : xI} {L : xL} {z : Bool × Bool × Nat} {b : Nat × Nat} {a1 : Int32} {a2 : Int32} :
  xrun k_X9_turnerSays 1 C Q [4, 18, 24, 45] K 8 4 [some (.ref 66), some (.int a1), some (.int a2)] [] (xS I L z) b =
  (if a2 < (I 66 9) then C 252 [.ref 66, .int a2, .int 0] (xS I L z) (fun r τ => K 18 [some (.ref 66), some (.int a1), some (.int a2)] (r.toList ++ []) τ b) else C 252 [.ref 66, .int a1, .int 0] (xS I L z) (fun r τ => K 45 [some (.ref 66), some (.int a1), some (.int a2)] (r.toList ++ []) τ b)) := rfl
set_option maxRecDepth 100000 in
theorem b_X9_turnerSays_18 {C : xC} {Q : xQ} {K : xK} {I : xI} {L : xL} {z : Bool × Bool × Nat} {b : Nat × Nat} {a1 : Int32} {a2 : Int32} {s0 : Int32} :
  xrun k_X9_turnerSays 1 C Q [4, 18, 24, 45] K 4 18 [some (.ref 66), some (.int a1), some (.int a2)] [.int s0] (xS I L z) b =
  C 252 [.ref 66, .int a1, .int 0] (xS I L z) (fun r τ => K 24 [some (.ref 66), some (.int a1), some (.int a2)] (r.toList ++ [.int s0]) τ b) := rfl
set_option maxRecDepth 100000 in
theorem b_X9_turnerSays_45 {C : xC} {Q : xQ} {K : xK} {I : xI} {L : xL} {z : Bool × Bool × Nat} {b : Nat × Nat} {a1 : Int32} {a2 : Int32} {s0 : Int32} :
  xrun k_X9_turnerSays 1 C Q [4, 18, 24, 45] K 6 45 [some (.ref 66), some (.int a1), some (.int a2)] [.int s0] (xS I L z) b =
  (if s0 = 1 then Q (some (.int (-1 : Int32))) (xS I L z) else Q (some (.int (10 * a1))) (xS I L z)) := rfl
set_option maxRecDepth 100000 in
theorem b_X9_turnerSays_24 {C : xC} {Q : xQ} {K : xK} {I : xI} {L : xL} {z : Bool × Bool × Nat} {b : Nat × Nat} {a1 : Int32} {a2 : Int32} {s1 : Int32} {s0 : Int32} :
  xrun k_X9_turnerSays 1 C Q [4, 18, 24, 45] K 6 24 [some (.ref 66), some (.int a1), some (.int a2)] [.int s0, .int s1] (xS I L z) b =
  (if s0 < s1 then K 4 [some (.ref 66), some (.int a2), some (.int (a2 + 1))] [] (xS I L z) b else K 4 [some (.ref 66), some (.int a1), some (.int (a2 + 1))] [] (xS I L z) b) := rfl
set_option maxRecDepth 100000 in
theorem b_X9_handerSays_0 {C : xC} {Q : xQ} {K : xK} {I : xI} {L : xL} {z : Bool × Bool × Nat} {b : Nat × Nat}  :
  xrun k_X9_handerSays 1 C Q [4, 43, 57, 64] K 4 0 [some (.ref 66), none, none] [] (xS I L z) b =
  K 4 [some (.ref 66), some (.int 0), some (.int 1)] [] (xS I L z) b := rfl
set_option maxRecDepth 100000 in
theorem b_X9_handerSays_4 {C : xC} {Q : xQ} {K : xK} {I : xI} {L : xL} {z : Bool × Bool × Nat} {b : Nat × Nat} {a1 : Int32} {a2 : Int32} :
  xrun k_X9_handerSays 1 C Q [4, 43, 57, 64] K 18 4 [some (.ref 66), some (.int a1), some (.int a2)] [] (xS I L z) b =
  (if a2 < (I 66 9) then (if xin a2 (6) then (if xin a1 (6) then (if (I 93 (Int32.toNatClampNeg a1)) < (I 93 (Int32.toNatClampNeg a2)) then K 4 [some (.ref 66), some (.int a2), some (.int (a2 + 1))] [] (xS I L z) b else K 4 [some (.ref 66), some (.int a1), some (.int (a2 + 1))] [] (xS I L z) b) else False) else False) else C 270 [.ref 66] (xS I L z) (fun r τ => K 43 [some (.ref 66), some (.int a1), some (.int a2)] (r.toList ++ []) τ b)) := rfl
set_option maxRecDepth 100000 in
theorem b_X9_handerSays_43 {C : xC} {Q : xQ} {K : xK} {I : xI} {L : xL} {z : Bool × Bool × Nat} {b : Nat × Nat} {a1 : Int32} {a2 : Int32} :
  xrun k_X9_handerSays 1 C Q [4, 43, 57, 64] K 9 43 [some (.ref 66), some (.int a1), some (.int a2)] [] (xS I L z) b =
  (if xin a1 (6) then C 250 [.ref 66, .int (I 110 (Int32.toNatClampNeg a1))] (xS I L z) (fun r τ => K 57 [some (.ref 66), some (.int a1), some (.int (I 110 (Int32.toNatClampNeg a1)))] (r.toList ++ [.int 10]) τ b) else False) := rfl
set_option maxRecDepth 100000 in
theorem b_X9_handerSays_57 {C : xC} {Q : xQ} {K : xK} {I : xI} {L : xL} {z : Bool × Bool × Nat} {b : Nat × Nat} {a1 : Int32} {a2 : Int32} {s1 : Int32} {s0 : Int32} :
  xrun k_X9_handerSays 1 C Q [4, 43, 57, 64] K 6 57 [some (.ref 66), some (.int a1), some (.int a2)] [.int s0, .int s1] (xS I L z) b =
  (if s0 = 0 then Q (some (.int ((s1 * a2) + 3))) (xS I L z) else C 279 [.ref 66] (xS I L z) (fun r τ => K 64 [some (.ref 66), some (.int a1), some (.int a2)] (r.toList ++ [.int s1]) τ b)) := rfl
set_option maxRecDepth 100000 in
theorem b_X9_handerSays_64 {C : xC} {Q : xQ} {K : xK} {I : xI} {L : xL} {z : Bool × Bool × Nat} {b : Nat × Nat} {a1 : Int32} {a2 : Int32} {s1 : Int32} {s0 : Int32} :
  xrun k_X9_handerSays 1 C Q [4, 43, 57, 64] K 5 64 [some (.ref 66), some (.int a1), some (.int a2)] [.int s0, .int s1] (xS I L z) b =
  Q (some (.int ((s1 * s0) + 3))) (xS I L z) := rfl
set_option maxRecDepth 100000 in
theorem b_X9_toldBy_0 {C : xC} {Q : xQ} {K : xK} {I : xI} {L : xL} {z : Bool × Bool × Nat} {b : Nat × Nat} {a1 : Int32} :
  xrun k_X9_toldBy 1 C Q [4, 60, 67, 77, 84, 97, 114, 119, 126] K 2 0 [some (.ref 66), some (.int a1), none] [] (xS I L z) b =
  C 244 [.ref 66] (xS I L z) (fun r τ => K 4 [some (.ref 66), some (.int a1), none] (r.toList ++ []) τ b) := rfl
set_option maxRecDepth 100000 in
theorem b_X9_toldBy_4 {C : xC} {Q : xQ} {K : xK} {I : xI} {L : xL} {z : Bool × Bool × Nat} {b : Nat × Nat} {a1 : Int32} :
  xrun k_X9_toldBy 1 C Q [4, 60, 67, 77, 84, 97, 114, 119, 126] K 12 4 [some (.ref 66), some (.int a1), none] [] (xS I L z) b =
  (if (I 66 36) < 2 then Q (some (.int (-1 : Int32))) (xS I L z) else (if xin a1 (4) then (if (I 101 (Int32.toNatClampNeg a1)) = 1 then C 280 [.ref 66] (xS I L z) (fun r τ => K 60 [some (.ref 66), some (.int a1), none] (r.toList ++ []) τ b) else (if (I 101 (Int32.toNatClampNeg a1)) = 2 then C 279 [.ref 66] (xS I L z) (fun r τ => K 67 [some (.ref 66), some (.int a1), none] (r.toList ++ [.int 10]) τ b) else (if (I 101 (Int32.toNatClampNeg a1)) = 3 then C 255 [.ref 66, .int 7] (xS I L z) (fun r τ => K 77 [some (.ref 66), some (.int a1), none] (r.toList ++ []) τ b) else (if (I 101 (Int32.toNatClampNeg a1)) = 4 then C 255 [.ref 66, .int 7] (xS I L z) (fun r τ => K 84 [some (.ref 66), some (.int a1), none] (r.toList ++ []) τ b) else (if (I 101 (Int32.toNatClampNeg a1)) = 5 then C 281 [.ref 66] (xS I L z) (fun r τ => K 119 [some (.ref 66), some (.int a1), none] (r.toList ++ []) τ b) else C 279 [.ref 66] (xS I L z) (fun r τ => K 126 [some (.ref 66), some (.int a1), none] (r.toList ++ [.int 10]) τ b)))))) else False)) := rfl
set_option maxRecDepth 100000 in
theorem b_X9_toldBy_60 {C : xC} {Q : xQ} {K : xK} {I : xI} {L : xL} {z : Bool × Bool × Nat} {b : Nat × Nat} {a1 : Int32} {s0 : Int32} :
  xrun k_X9_toldBy 1 C Q [4, 60, 67, 77, 84, 97, 114, 119, 126] K 1 60 [some (.ref 66), some (.int a1), none] [.int s0] (xS I L z) b =
  Q (some (.int s0)) (xS I L z) := rfl
set_option maxRecDepth 100000 in
theorem b_X9_toldBy_67 {C : xC} {Q : xQ} {K : xK} {I : xI} {L : xL} {z : Bool × Bool × Nat} {b : Nat × Nat} {a1 : Int32} {s1 : Int32} {s0 : Int32} :
  xrun k_X9_toldBy 1 C Q [4, 60, 67, 77, 84, 97, 114, 119, 126] K 4 67 [some (.ref 66), some (.int a1), none] [.int s0, .int s1] (xS I L z) b =
  Q (some (.int ((s1 * s0) + 3))) (xS I L z) := rfl
set_option maxRecDepth 100000 in
theorem b_X9_toldBy_77 {C : xC} {Q : xQ} {K : xK} {I : xI} {L : xL} {z : Bool × Bool × Nat} {b : Nat × Nat} {a1 : Int32} {s0 : Int32} :
  xrun k_X9_toldBy 1 C Q [4, 60, 67, 77, 84, 97, 114, 119, 126] K 1 77 [some (.ref 66), some (.int a1), none] [.int s0] (xS I L z) b =
  Q (some (.int s0)) (xS I L z) := rfl
set_option maxRecDepth 100000 in
theorem b_X9_toldBy_84 {C : xC} {Q : xQ} {K : xK} {I : xI} {L : xL} {z : Bool × Bool × Nat} {b : Nat × Nat} {a1 : Int32} {s0 : Int32} :
  xrun k_X9_toldBy 1 C Q [4, 60, 67, 77, 84, 97, 114, 119, 126] K 9 84 [some (.ref 66), some (.int a1), none] [.int s0] (xS I L z) b =
  C 253 [.ref 66, .int (s0 / 10), .int (s0 - s0 / 10 * 10)] (xS I L z) (fun r τ => K 97 [some (.ref 66), some (.int a1), some (.int s0)] (r.toList ++ []) τ b) := rfl
set_option maxRecDepth 100000 in
theorem b_X9_toldBy_119 {C : xC} {Q : xQ} {K : xK} {I : xI} {L : xL} {z : Bool × Bool × Nat} {b : Nat × Nat} {a1 : Int32} {s0 : Int32} :
  xrun k_X9_toldBy 1 C Q [4, 60, 67, 77, 84, 97, 114, 119, 126] K 1 119 [some (.ref 66), some (.int a1), none] [.int s0] (xS I L z) b =
  Q (some (.int s0)) (xS I L z) := rfl
set_option maxRecDepth 100000 in
theorem b_X9_toldBy_126 {C : xC} {Q : xQ} {K : xK} {I : xI} {L : xL} {z : Bool × Bool × Nat} {b : Nat × Nat} {a1 : Int32} {s1 : Int32} {s0 : Int32} :
  xrun k_X9_toldBy 1 C Q [4, 60, 67, 77, 84, 97, 114, 119, 126] K 9 126 [some (.ref 66), some (.int a1), none] [.int s0, .int s1] (xS I L z) b =
  (if xin a1 (4) then Q (some (.int ((s1 * s0) + ((I 102 (Int32.toNatClampNeg a1)) - (I 102 (Int32.toNatClampNeg a1)) / 4 * 4)))) (xS I L z) else False) := rfl
set_option maxRecDepth 100000 in
theorem b_X9_toldBy_97 {C : xC} {Q : xQ} {K : xK} {I : xI} {L : xL} {z : Bool × Bool × Nat} {b : Nat × Nat} {a1 : Int32} {a2 : Int32} {s0 : Int32} :
  xrun k_X9_toldBy 1 C Q [4, 60, 67, 77, 84, 97, 114, 119, 126] K 6 97 [some (.ref 66), some (.int a1), some (.int a2)] [.int s0] (xS I L z) b =
  (if s0 < (I 66 36) then K 114 [some (.ref 66), some (.int a1), some (.int a2)] [.int a2] (xS I L z) b else C 255 [.ref 66, .int 8] (xS I L z) (fun r τ => K 114 [some (.ref 66), some (.int a1), some (.int a2)] (r.toList ++ []) τ b)) := rfl
set_option maxRecDepth 100000 in
theorem b_X9_toldBy_114 {C : xC} {Q : xQ} {K : xK} {I : xI} {L : xL} {z : Bool × Bool × Nat} {b : Nat × Nat} {a1 : Int32} {a2 : Int32} {s0 : Int32} :
  xrun k_X9_toldBy 1 C Q [4, 60, 67, 77, 84, 97, 114, 119, 126] K 1 114 [some (.ref 66), some (.int a1), some (.int a2)] [.int s0] (xS I L z) b =
  Q (some (.int s0)) (xS I L z) := rfl
set_option maxRecDepth 100000 in
theorem b_X9_tells__0 {C : xC} {Q : xQ} {K : xK} {I : xI} {L : xL} {z : Bool × Bool × Nat} {b : Nat × Nat} {a1 : Int32} :
  xrun k_X9_tells_ 1 C Q [5, 13, 22] K 3 0 [some (.ref 66), some (.int a1)] [] (xS I L z) b =
  C 190 [.ref 66, .int a1] (xS I L z) (fun r τ => K 5 [some (.ref 66), some (.int a1)] (r.toList ++ []) τ b) := rfl
set_option maxRecDepth 100000 in
theorem b_X9_tells__5 {C : xC} {Q : xQ} {K : xK} {I : xI} {L : xL} {z : Bool × Bool × Nat} {b : Nat × Nat} {a1 : Int32} {s0 : Int32} :
  xrun k_X9_tells_ 1 C Q [5, 13, 22] K 4 5 [some (.ref 66), some (.int a1)] [.int s0] (xS I L z) b =
  (if s0 = 0 then C 187 [.ref 66, .int (-2 : Int32)] (xS I L z) (fun r τ => K 22 [some (.ref 66), some (.int a1)] (r.toList ++ []) τ b) else C 282 [.ref 66, .int a1] (xS I L z) (fun r τ => K 13 [some (.ref 66), some (.int a1)] (r.toList ++ []) τ b)) := rfl
set_option maxRecDepth 100000 in
theorem b_X9_tells__13 {C : xC} {Q : xQ} {K : xK} {I : xI} {L : xL} {z : Bool × Bool × Nat} {b : Nat × Nat} {a1 : Int32} {s0 : Int32} :
  xrun k_X9_tells_ 1 C Q [5, 13, 22] K 1 13 [some (.ref 66), some (.int a1)] [.int s0] (xS I L z) b =
  K 22 [some (.ref 66), some (.int a1)] [.int s0] (xS I L z) b := rfl
set_option maxRecDepth 100000 in
theorem b_X9_tells__22 {C : xC} {Q : xQ} {K : xK} {I : xI} {L : xL} {z : Bool × Bool × Nat} {b : Nat × Nat} {a1 : Int32} {s0 : Int32} :
  xrun k_X9_tells_ 1 C Q [5, 13, 22] K 1 22 [some (.ref 66), some (.int a1)] [.int s0] (xS I L z) b =
  Q (some (.int s0)) (xS I L z) := rfl
set_option maxRecDepth 100000 in
theorem b_X9_odd_0 {C : xC} {Q : xQ} {K : xK} {I : xI} {L : xL} {z : Bool × Bool × Nat} {b : Nat × Nat} {a1 : Int32} :
  xrun k_X9_odd 1 C Q [6, 15, 20, 24, 38, 67, 78] K 4 0 [some (.ref 66), some (.int a1), none, none, none, none] [] (xS I L z) b =
  C 189 [.ref 66, .long (Int32.toInt64 a1)] (xS I L z) (fun r τ => K 6 [some (.ref 66), some (.int a1), none, none, none, none] (r.toList ++ []) τ b) := rfl
set_option maxRecDepth 100000 in
theorem b_X9_odd_6 {C : xC} {Q : xQ} {K : xK} {I : xI} {L : xL} {z : Bool × Bool × Nat} {b : Nat × Nat} {a1 : Int32} {s0 : Int32} :
  xrun k_X9_odd 1 C Q [6, 15, 20, 24, 38, 67, 78] K 4 6 [some (.ref 66), some (.int a1), none, none, none, none] [.int s0] (xS I L z) b =
  (if s0 = 0 then C 187 [.ref 66, .int (-2 : Int32)] (xS I L z) (fun r τ => K 15 [some (.ref 66), some (.int a1), none, none, none, none] (r.toList ++ []) τ b) else C 244 [.ref 66] (xS I L z) (fun r τ => K 20 [some (.ref 66), some (.int a1), none, none, none, none] (r.toList ++ []) τ b)) := rfl
set_option maxRecDepth 100000 in
theorem b_X9_odd_15 {C : xC} {Q : xQ} {K : xK} {I : xI} {L : xL} {z : Bool × Bool × Nat} {b : Nat × Nat} {a1 : Int32} {s0 : Int32} :
  xrun k_X9_odd 1 C Q [6, 15, 20, 24, 38, 67, 78] K 1 15 [some (.ref 66), some (.int a1), none, none, none, none] [.int s0] (xS I L z) b =
  Q (some (.int s0)) (xS I L z) := rfl
set_option maxRecDepth 100000 in
theorem b_X9_odd_20 {C : xC} {Q : xQ} {K : xK} {I : xI} {L : xL} {z : Bool × Bool × Nat} {b : Nat × Nat} {a1 : Int32} :
  xrun k_X9_odd 1 C Q [6, 15, 20, 24, 38, 67, 78] K 4 20 [some (.ref 66), some (.int a1), none, none, none, none] [] (xS I L z) b =
  K 24 [some (.ref 66), some (.int a1), some (.int 0), some (.int 0), none, none] [] (xS I L z) b := rfl
set_option maxRecDepth 100000 in
theorem b_X9_odd_24 {C : xC} {Q : xQ} {K : xK} {I : xI} {L : xL} {z : Bool × Bool × Nat} {b : Nat × Nat} {a1 : Int32} {a2 : Int32} {a3 : Int32} :
  xrun k_X9_odd 1 C Q [6, 15, 20, 24, 38, 67, 78] K 8 24 [some (.ref 66), some (.int a1), some (.int a2), some (.int a3), none, none] [] (xS I L z) b =
  (if a3 < (I 66 36) then K 38 [some (.ref 66), some (.int a1), some (.int a2), some (.int a3), some (.int 1), some (.int 0)] [] (xS I L z) b else Q (some (.int a2)) (xS I L z)) := rfl
set_option maxRecDepth 100000 in
theorem b_X9_odd_38 {C : xC} {Q : xQ} {K : xK} {I : xI} {L : xL} {z : Bool × Bool × Nat} {b : Nat × Nat} {a1 : Int32} {a2 : Int32} {a3 : Int32} {a4 : Int32} {a5 : Int32} :
  xrun k_X9_odd 1 C Q [6, 15, 20, 24, 38, 67, 78] K 15 38 [some (.ref 66), some (.int a1), some (.int a2), some (.int a3), some (.int a4), some (.int a5)] [] (xS I L z) b =
  (if a5 < (I 66 9) then (if a5 = a1 then K 38 [some (.ref 66), some (.int a1), some (.int a2), some (.int a3), some (.int (a4 &&& 1)), some (.int (a5 + 1))] [] (xS I L z) b else (if xin a3 (720) then C 235 [.ref 66, .int (I 108 (Int32.toNatClampNeg a3)), .int a5] (xS I L z) (fun r τ => K 67 [some (.ref 66), some (.int a1), some (.int a2), some (.int a3), some (.int a4), some (.int a5)] (r.toList ++ [.int a4]) τ b) else False)) else (if a4 = 0 then K 24 [some (.ref 66), some (.int a1), some (.int (a2 + 0)), some (.int (a3 + 1)), some (.int a4), some (.int a5)] [] (xS I L z) b else K 24 [some (.ref 66), some (.int a1), some (.int (a2 + 1)), some (.int (a3 + 1)), some (.int a4), some (.int a5)] [] (xS I L z) b)) := rfl
set_option maxRecDepth 100000 in
theorem b_X9_odd_67 {C : xC} {Q : xQ} {K : xK} {I : xI} {L : xL} {z : Bool × Bool × Nat} {b : Nat × Nat} {a1 : Int32} {a2 : Int32} {a3 : Int32} {a4 : Int32} {a5 : Int32} {s1 : Int32} {s0 : Int32} :
  xrun k_X9_odd 1 C Q [6, 15, 20, 24, 38, 67, 78] K 7 67 [some (.ref 66), some (.int a1), some (.int a2), some (.int a3), some (.int a4), some (.int a5)] [.int s0, .int s1] (xS I L z) b =
  (if xin a3 (720) then C 235 [.ref 66, .int (I 108 (Int32.toNatClampNeg a3)), .int a1] (xS I L z) (fun r τ => K 78 [some (.ref 66), some (.int a1), some (.int a2), some (.int a3), some (.int a4), some (.int a5)] (r.toList ++ [.int s0, .int s1]) τ b) else False) := rfl
set_option maxRecDepth 100000 in
theorem b_X9_odd_78 {C : xC} {Q : xQ} {K : xK} {I : xI} {L : xL} {z : Bool × Bool × Nat} {b : Nat × Nat} {a1 : Int32} {a2 : Int32} {a3 : Int32} {a4 : Int32} {a5 : Int32} {s2 : Int32} {s1 : Int32} {s0 : Int32} :
  xrun k_X9_odd 1 C Q [6, 15, 20, 24, 38, 67, 78] K 7 78 [some (.ref 66), some (.int a1), some (.int a2), some (.int a3), some (.int a4), some (.int a5)] [.int s0, .int s1, .int s2] (xS I L z) b =
  (if s1 = s0 then K 38 [some (.ref 66), some (.int a1), some (.int a2), some (.int a3), some (.int (s2 &&& 0)), some (.int (a5 + 1))] [] (xS I L z) b else K 38 [some (.ref 66), some (.int a1), some (.int a2), some (.int a3), some (.int (s2 &&& 1)), some (.int (a5 + 1))] [] (xS I L z) b) := rfl
set_option maxRecDepth 100000 in
theorem b_X9_turned_0 {C : xC} {Q : xQ} {K : xK} {I : xI} {L : xL} {z : Bool × Bool × Nat} {b : Nat × Nat}  :
  xrun k_X9_turned 1 C Q [2, 15, 19] K 2 0 [some (.ref 66), none, none, none] [] (xS I L z) b =
  K 2 [some (.ref 66), some (.int 0), none, none] [] (xS I L z) b := rfl
set_option maxRecDepth 100000 in
theorem b_X9_turned_2 {C : xC} {Q : xQ} {K : xK} {I : xI} {L : xL} {z : Bool × Bool × Nat} {b : Nat × Nat} {a1 : Int32} :
  xrun k_X9_turned 1 C Q [2, 15, 19] K 7 2 [some (.ref 66), some (.int a1), none, none] [] (xS I L z) b =
  (if a1 < (I 66 9) then C 239 [.ref 66, .int a1] (xS I L z) (fun r τ => K 15 [some (.ref 66), some (.int a1), none, none] (r.toList ++ []) τ b) else Q (some (.int (-1 : Int32))) (xS I L z)) := rfl
set_option maxRecDepth 100000 in
theorem b_X9_turned_15 {C : xC} {Q : xQ} {K : xK} {I : xI} {L : xL} {z : Bool × Bool × Nat} {b : Nat × Nat} {a1 : Int32} :
  xrun k_X9_turned 1 C Q [2, 15, 19] K 4 15 [some (.ref 66), some (.int a1), none, none] [] (xS I L z) b =
  K 19 [some (.ref 66), some (.int a1), some (.int 1), some (.int 0)] [] (xS I L z) b := rfl
set_option maxRecDepth 100000 in
theorem b_X9_turned_19 {C : xC} {Q : xQ} {K : xK} {I : xI} {L : xL} {z : Bool × Bool × Nat} {b : Nat × Nat} {a1 : Int32} {a2 : Int32} {a3 : Int32} :
  xrun k_X9_turned 1 C Q [2, 15, 19] K 20 19 [some (.ref 66), some (.int a1), some (.int a2), some (.int a3)] [] (xS I L z) b =
  (if a3 < (I 66 9) then (if xin a3 (6) then (if xin a3 (6) then (if (I 106 (Int32.toNatClampNeg a3)) = (I 84 (Int32.toNatClampNeg a3)) then K 19 [some (.ref 66), some (.int a1), some (.int (a2 &&& 1)), some (.int (a3 + 1))] [] (xS I L z) b else K 19 [some (.ref 66), some (.int a1), some (.int (a2 &&& 0)), some (.int (a3 + 1))] [] (xS I L z) b) else False) else False) else (if a2 = 0 then K 2 [some (.ref 66), some (.int (a1 + 1)), some (.int a2), some (.int a3)] [] (xS I L z) b else Q (some (.int a1)) (xS I L z))) := rfl
set_option maxRecDepth 100000 in
theorem b_X9_tries_0 {C : xC} {Q : xQ} {K : xK} {I : xI} {L : xL} {z : Bool × Bool × Nat} {b : Nat × Nat} {a1 : Int32} :
  xrun k_X9_tries 1 C Q [5, 14, 17, 22, 60] K 3 0 [some (.ref 66), some (.int a1), none, none] [] (xS I L z) b =
  C 190 [.ref 66, .int a1] (xS I L z) (fun r τ => K 5 [some (.ref 66), some (.int a1), none, none] (r.toList ++ []) τ b) := rfl
set_option maxRecDepth 100000 in
theorem b_X9_tries_5 {C : xC} {Q : xQ} {K : xK} {I : xI} {L : xL} {z : Bool × Bool × Nat} {b : Nat × Nat} {a1 : Int32} {s0 : Int32} :
  xrun k_X9_tries 1 C Q [5, 14, 17, 22, 60] K 4 5 [some (.ref 66), some (.int a1), none, none] [.int s0] (xS I L z) b =
  (if s0 = 0 then C 187 [.ref 66, .int (-2 : Int32)] (xS I L z) (fun r τ => K 14 [some (.ref 66), some (.int a1), none, none] (r.toList ++ []) τ b) else K 17 [some (.ref 66), some (.int a1), some (.int 0), none] [] (xS I L z) b) := rfl
set_option maxRecDepth 100000 in
theorem b_X9_tries_14 {C : xC} {Q : xQ} {K : xK} {I : xI} {L : xL} {z : Bool × Bool × Nat} {b : Nat × Nat} {a1 : Int32} {s0 : Int32} :
  xrun k_X9_tries 1 C Q [5, 14, 17, 22, 60] K 1 14 [some (.ref 66), some (.int a1), none, none] [.int s0] (xS I L z) b =
  Q (some (.int s0)) (xS I L z) := rfl
set_option maxRecDepth 100000 in
theorem b_X9_tries_17 {C : xC} {Q : xQ} {K : xK} {I : xI} {L : xL} {z : Bool × Bool × Nat} {b : Nat × Nat} {a1 : Int32} {a2 : Int32} :
  xrun k_X9_tries 1 C Q [5, 14, 17, 22, 60] K 3 17 [some (.ref 66), some (.int a1), some (.int a2), none] [] (xS I L z) b =
  C 282 [.ref 66, .int a1] (xS I L z) (fun r τ => K 22 [some (.ref 66), some (.int a1), some (.int a2), none] (r.toList ++ []) τ b) := rfl
set_option maxRecDepth 100000 in
theorem b_X9_tries_22 {C : xC} {Q : xQ} {K : xK} {I : xI} {L : xL} {z : Bool × Bool × Nat} {b : Nat × Nat} {a1 : Int32} {a2 : Int32} {s0 : Int32} :
  xrun k_X9_tries 1 C Q [5, 14, 17, 22, 60] K 24 22 [some (.ref 66), some (.int a1), some (.int a2), none] [.int s0] (xS I L z) b =
  (if s0 = (-1 : Int32) then Q (some (.int a2)) (xS I L z) else (if xin (s0 / 10) (6) then (bif xisi (xS I L z) (94 + 1 + Int32.toNatClampNeg (s0 / 10)) then (if xin (s0 - s0 / 10 * 10) (xlen z.2.2 (94 + 1 + Int32.toNatClampNeg (s0 / 10))) then (if (I (94 + 1 + Int32.toNatClampNeg (s0 / 10)) (Int32.toNatClampNeg (s0 - s0 / 10 * 10))) = (-1 : Int32) then C 286 [.ref 66, .int (s0 / 10), .int (s0 - s0 / 10 * 10)] (xS I L z) (fun r τ => K 60 [some (.ref 66), some (.int a1), some (.int a2), some (.int s0)] (r.toList ++ []) τ b) else Q (some (.int a2)) (xS I L z)) else False) else False) else False)) := rfl
set_option maxRecDepth 100000 in
theorem b_X9_tries_60 {C : xC} {Q : xQ} {K : xK} {I : xI} {L : xL} {z : Bool × Bool × Nat} {b : Nat × Nat} {a1 : Int32} {a2 : Int32} {a3 : Int32} {s0 : Int32} :
  xrun k_X9_tries 1 C Q [5, 14, 17, 22, 60] K 3 60 [some (.ref 66), some (.int a1), some (.int a2), some (.int a3)] [.int s0] (xS I L z) b =
  K 17 [some (.ref 66), some (.int a1), some (.int (a2 + 1)), some (.int a3)] [] (xS I L z) b := rfl
set_option maxRecDepth 100000 in
theorem b_X9_stairs_0 {C : xC} {Q : xQ} {K : xK} {I : xI} {L : xL} {z : Bool × Bool × Nat} {b : Nat × Nat}  :
  xrun k_X9_stairs 1 C Q [4, 12, 15, 34, 45] K 2 0 [some (.ref 66), none, none] [] (xS I L z) b =
  C 241 [.ref 66] (xS I L z) (fun r τ => K 4 [some (.ref 66), none, none] (r.toList ++ []) τ b) := rfl
set_option maxRecDepth 100000 in
theorem b_X9_stairs_4 {C : xC} {Q : xQ} {K : xK} {I : xI} {L : xL} {z : Bool × Bool × Nat} {b : Nat × Nat}  :
  xrun k_X9_stairs 1 C Q [4, 12, 15, 34, 45] K 4 4 [some (.ref 66), none, none] [] (xS I L z) b =
  C 289 [.ref 66, .int (I 66 32)] (xS I L z) (fun r τ => K 12 [some (.ref 66), none, none] (r.toList ++ []) τ b) := rfl
set_option maxRecDepth 100000 in
theorem b_X9_stairs_12 {C : xC} {Q : xQ} {K : xK} {I : xI} {L : xL} {z : Bool × Bool × Nat} {b : Nat × Nat} {s0 : Int32} :
  xrun k_X9_stairs 1 C Q [4, 12, 15, 34, 45] K 3 12 [some (.ref 66), none, none] [.int s0] (xS I L z) b =
  K 15 [some (.ref 66), some (.int s0), some (.int 0)] [] (xS I L z) b := rfl
set_option maxRecDepth 100000 in
theorem b_X9_stairs_15 {C : xC} {Q : xQ} {K : xK} {I : xI} {L : xL} {z : Bool × Bool × Nat} {b : Nat × Nat} {a1 : Int32} {a2 : Int32} :
  xrun k_X9_stairs 1 C Q [4, 12, 15, 34, 45] K 11 15 [some (.ref 66), some (.int a1), some (.int a2)] [] (xS I L z) b =
  (if a2 < (I 66 9) then C 235 [.ref 66, .int a1, .int a2] (xS I L z) (fun r τ => K 34 [some (.ref 66), some (.int a1), some (.int a2)] (r.toList ++ [.int a2, .ref 84]) τ b) else C 203 [.ref 66] (xS I L z) (fun r τ => K 45 [some (.ref 66), some (.int a1), some (.int a2)] (r.toList ++ []) τ b)) := rfl
set_option maxRecDepth 100000 in
theorem b_X9_stairs_34 {C : xC} {Q : xQ} {K : xK} {I : xI} {L : xL} {z : Bool × Bool × Nat} {b : Nat × Nat} {a1 : Int32} {a2 : Int32} {s1 : Int32} {s0 : Int32} :
  xrun k_X9_stairs 1 C Q [4, 12, 15, 34, 45] K 3 34 [some (.ref 66), some (.int a1), some (.int a2)] [.int s0, .int s1, .ref 84] (xS I L z) b =
  (if xin s1 (6) then K 15 [some (.ref 66), some (.int a1), some (.int (a2 + 1))] [] (xS (xw I 84 (Int32.toNatClampNeg s1) s0) L z) b else False) := rfl
set_option maxRecDepth 100000 in
theorem b_X9_stairs_45 {C : xC} {Q : xQ} {K : xK} {I : xI} {L : xL} {z : Bool × Bool × Nat} {b : Nat × Nat} {a1 : Int32} {a2 : Int32} :
  xrun k_X9_stairs 1 C Q [4, 12, 15, 34, 45] K 3 45 [some (.ref 66), some (.int a1), some (.int a2)] [] (xS I L z) b =
  Q (some (.int (I 66 32))) (xS I L z) := rfl
set_option maxRecDepth 100000 in
theorem b_X9_truth_0 {C : xC} {Q : xQ} {K : xK} {I : xI} {L : xL} {z : Bool × Bool × Nat} {b : Nat × Nat} {a1 : Int32} :
  xrun k_X9_truth 1 C Q [5, 22, 31, 36, 38, 69, 82, 96, 100, 114] K 3 0 [some (.ref 66), some (.int a1), none, none] [] (xS I L z) b =
  C 207 [.ref 66, .int a1] (xS I L z) (fun r τ => K 5 [some (.ref 66), some (.int a1), none, none] (r.toList ++ []) τ b) := rfl
set_option maxRecDepth 100000 in
theorem b_X9_truth_5 {C : xC} {Q : xQ} {K : xK} {I : xI} {L : xL} {z : Bool × Bool × Nat} {b : Nat × Nat} {a1 : Int32} {s0 : Int32} :
  xrun k_X9_truth 1 C Q [5, 22, 31, 36, 38, 69, 82, 96, 100, 114] K 9 5 [some (.ref 66), some (.int a1), none, none] [.int s0] (xS I L z) b =
  (if s0 = 0 then (if xin a1 (8) then C 208 [.ref 66, .ref (70 + 1 + Int32.toNatClampNeg a1)] (xS I L z) (fun r τ => K 22 [some (.ref 66), some (.int a1), some (.int s0), none] (r.toList ++ []) τ b) else False) else Q (some (.int s0)) (xS I L z)) := rfl
set_option maxRecDepth 100000 in
theorem b_X9_truth_22 {C : xC} {Q : xQ} {K : xK} {I : xI} {L : xL} {z : Bool × Bool × Nat} {b : Nat × Nat} {a1 : Int32} {a2 : Int32} {s0 : Int32} :
  xrun k_X9_truth 1 C Q [5, 22, 31, 36, 38, 69, 82, 96, 100, 114] K 4 22 [some (.ref 66), some (.int a1), some (.int a2), none] [.int s0] (xS I L z) b =
  (if s0 = 0 then C 187 [.ref 66, .int (-2 : Int32)] (xS I L z) (fun r τ => K 31 [some (.ref 66), some (.int a1), some (.int a2), none] (r.toList ++ []) τ b) else C 241 [.ref 66] (xS I L z) (fun r τ => K 36 [some (.ref 66), some (.int a1), some (.int a2), none] (r.toList ++ []) τ b)) := rfl
set_option maxRecDepth 100000 in
theorem b_X9_truth_31 {C : xC} {Q : xQ} {K : xK} {I : xI} {L : xL} {z : Bool × Bool × Nat} {b : Nat × Nat} {a1 : Int32} {a2 : Int32} {s0 : Int32} :
  xrun k_X9_truth 1 C Q [5, 22, 31, 36, 38, 69, 82, 96, 100, 114] K 1 31 [some (.ref 66), some (.int a1), some (.int a2), none] [.int s0] (xS I L z) b =
  Q (some (.int s0)) (xS I L z) := rfl
set_option maxRecDepth 100000 in
theorem b_X9_truth_36 {C : xC} {Q : xQ} {K : xK} {I : xI} {L : xL} {z : Bool × Bool × Nat} {b : Nat × Nat} {a1 : Int32} {a2 : Int32} :
  xrun k_X9_truth 1 C Q [5, 22, 31, 36, 38, 69, 82, 96, 100, 114] K 2 36 [some (.ref 66), some (.int a1), some (.int a2), none] [] (xS I L z) b =
  K 38 [some (.ref 66), some (.int a1), some (.int a2), some (.int 0)] [] (xS I L z) b := rfl
set_option maxRecDepth 100000 in
theorem b_X9_truth_38 {C : xC} {Q : xQ} {K : xK} {I : xI} {L : xL} {z : Bool × Bool × Nat} {b : Nat × Nat} {a1 : Int32} {a2 : Int32} {a3 : Int32} :
  xrun k_X9_truth 1 C Q [5, 22, 31, 36, 38, 69, 82, 96, 100, 114] K 17 38 [some (.ref 66), some (.int a1), some (.int a2), some (.int a3)] [] (xS I L z) b =
  (if a3 < (I 66 9) then (if xin a1 (8) then (bif xis (xS I L z) (70 + 1 + Int32.toNatClampNeg a1) 21 then (if xin a3 (xlen z.2.2 (70 + 1 + Int32.toNatClampNeg a1)) then (if xin a3 (6) then K 38 [some (.ref 66), some (.int a1), some (.int a2), some (.int (a3 + 1))] [] (xS (xw I 106 (Int32.toNatClampNeg a3) (Int64.toInt32 (L (70 + 1 + Int32.toNatClampNeg a1) (Int32.toNatClampNeg a3)))) L z) b else False) else False) else False) else False) else K 69 [some (.ref 66), some (.int a1), some (.int a2), some (.int 0)] [] (xS I L z) b) := rfl
set_option maxRecDepth 100000 in
theorem b_X9_truth_69 {C : xC} {Q : xQ} {K : xK} {I : xI} {L : xL} {z : Bool × Bool × Nat} {b : Nat × Nat} {a1 : Int32} {a2 : Int32} {a3 : Int32} :
  xrun k_X9_truth 1 C Q [5, 22, 31, 36, 38, 69, 82, 96, 100, 114] K 7 69 [some (.ref 66), some (.int a1), some (.int a2), some (.int a3)] [] (xS I L z) b =
  (if a3 < (I 66 32) then C 238 [.ref 66, .int a3] (xS I L z) (fun r τ => K 82 [some (.ref 66), some (.int a1), some (.int a2), some (.int a3)] (r.toList ++ []) τ b) else C 187 [.ref 66, .int (-5 : Int32)] (xS I L z) (fun r τ => K 114 [some (.ref 66), some (.int a1), some (.int a2), some (.int a3)] (r.toList ++ []) τ b)) := rfl
set_option maxRecDepth 100000 in
theorem b_X9_truth_82 {C : xC} {Q : xQ} {K : xK} {I : xI} {L : xL} {z : Bool × Bool × Nat} {b : Nat × Nat} {a1 : Int32} {a2 : Int32} {a3 : Int32} {s0 : Int32} :
  xrun k_X9_truth 1 C Q [5, 22, 31, 36, 38, 69, 82, 96, 100, 114] K 6 82 [some (.ref 66), some (.int a1), some (.int a2), some (.int a3)] [.int s0] (xS I L z) b =
  (if s0 = 0 then C 294 [.ref 106, .ref 84] (xS I L z) (fun r τ => K 96 [some (.ref 66), some (.int a1), some (.int a2), some (.int a3)] (r.toList ++ []) τ b) else K 69 [some (.ref 66), some (.int a1), some (.int a2), some (.int (a3 + 1))] [] (xS I L z) b) := rfl
set_option maxRecDepth 100000 in
theorem b_X9_truth_114 {C : xC} {Q : xQ} {K : xK} {I : xI} {L : xL} {z : Bool × Bool × Nat} {b : Nat × Nat} {a1 : Int32} {a2 : Int32} {a3 : Int32} {s0 : Int32} :
  xrun k_X9_truth 1 C Q [5, 22, 31, 36, 38, 69, 82, 96, 100, 114] K 1 114 [some (.ref 66), some (.int a1), some (.int a2), some (.int a3)] [.int s0] (xS I L z) b =
  Q (some (.int s0)) (xS I L z) := rfl
set_option maxRecDepth 100000 in
theorem b_X9_truth_96 {C : xC} {Q : xQ} {K : xK} {I : xI} {L : xL} {z : Bool × Bool × Nat} {b : Nat × Nat} {a1 : Int32} {a2 : Int32} {a3 : Int32} :
  xrun k_X9_truth 1 C Q [5, 22, 31, 36, 38, 69, 82, 96, 100, 114] K 2 96 [some (.ref 66), some (.int a1), some (.int a2), some (.int a3)] [] (xS I L z) b =
  C 203 [.ref 66] (xS I L z) (fun r τ => K 100 [some (.ref 66), some (.int a1), some (.int a2), some (.int a3)] (r.toList ++ []) τ b) := rfl
set_option maxRecDepth 100000 in
theorem b_X9_truth_100 {C : xC} {Q : xQ} {K : xK} {I : xI} {L : xL} {z : Bool × Bool × Nat} {b : Nat × Nat} {a1 : Int32} {a2 : Int32} {a3 : Int32} :
  xrun k_X9_truth 1 C Q [5, 22, 31, 36, 38, 69, 82, 96, 100, 114] K 2 100 [some (.ref 66), some (.int a1), some (.int a2), some (.int a3)] [] (xS I L z) b =
  Q (some (.int 1)) (xS I L z) := rfl
set_option maxRecDepth 100000 in
theorem b_X9_copied_0 {C : xC} {Q : xQ} {K : xK} {I : xI} {L : xL} {z : Bool × Bool × Nat} {b : Nat × Nat} {a0 : Nat} {a1 : Nat} :
  xrun k_X9_copied 0 C Q [2] K 2 0 [some (.ref a0), some (.ref a1), none] [] (xS I L z) b =
  K 2 [some (.ref a0), some (.ref a1), some (.int 0)] [] (xS I L z) b := rfl
set_option maxRecDepth 100000 in
theorem b_X9_copied_2 {C : xC} {Q : xQ} {K : xK} {I : xI} {L : xL} {z : Bool × Bool × Nat} {b : Nat × Nat} {a0 : Nat} {a1 : Nat} {a2 : Int32} :
  xrun k_X9_copied 0 C Q [2] K 12 2 [some (.ref a0), some (.ref a1), some (.int a2)] [] (xS I L z) b =
  (bif xalive (112, bif z.1 then 158 else 112, bif z.2.1 then 204 else 158) a0 && Nat.ble 20 (xkind a0) && !(Nat.beq (xkind a0) 24) then (if a2 < (Int32.ofNat (xlen z.2.2 (a0))) then (bif xisi (xS I L z) a0 then (if xin a2 (xlen z.2.2 (a0)) then (bif xis (xS I L z) a1 20 && Nat.blt 8 a1 then (if xin a2 (xlen z.2.2 (a1)) then K 2 [some (.ref a0), some (.ref a1), some (.int (a2 + 1))] [] (xS (xw I a1 (Int32.toNatClampNeg a2) (I a0 (Int32.toNatClampNeg a2))) L z) b else False) else False) else False) else False) else Q none (xS I L z)) else False) := rfl
set_option maxRecDepth 100000 in
theorem b_X9_status_0 {C : xC} {Q : xQ} {K : xK} {I : xI} {L : xL} {z : Bool × Bool × Nat} {b : Nat × Nat} {a1 : Int32} :
  xrun k_X9_status 1 C Q [67, 70, 99, 112, 154] K 9 0 [some (.ref 66), some (.int a1), none, none] [] (xS I L z) b =
  (if a1 = 0 then Q (some (.int (I 66 9))) (xS I L z) else (if a1 = 1 then Q (some (.int (I 66 10))) (xS I L z) else (if a1 = 2 then Q (some (.int (I 66 17))) (xS I L z) else (if a1 = 3 then C 204 [.ref 66] (xS I L z) (fun r τ => K 67 [some (.ref 66), some (.int a1), some (.int 0), none] (r.toList ++ []) τ b) else (if a1 = 4 then K 70 [some (.ref 66), some (.int a1), some (.int 0), some (.int 0)] [] (xS I L z) b else (if a1 = 5 then Q (some (.int (I 66 7))) (xS I L z) else (if a1 = 6 then Q (some (.int (I 66 20))) (xS I L z) else (if a1 = 7 then K 112 [some (.ref 66), some (.int a1), some (.int 0), some (.int 0)] [] (xS I L z) b else C 188 [.long (Int32.toInt64 a1), .long (Int64.ofNat 12), .long (Int64.ofNat 16)] (xS I L z) (fun r τ => K 154 [some (.ref 66), some (.int a1), some (.int 0), none] (r.toList ++ []) τ b))))))))) := rfl
set_option maxRecDepth 100000 in
theorem b_X9_status_67 {C : xC} {Q : xQ} {K : xK} {I : xI} {L : xL} {z : Bool × Bool × Nat} {b : Nat × Nat} {a1 : Int32} {a2 : Int32} {s0 : Int32} :
  xrun k_X9_status 1 C Q [67, 70, 99, 112, 154] K 1 67 [some (.ref 66), some (.int a1), some (.int a2), none] [.int s0] (xS I L z) b =
  Q (some (.int s0)) (xS I L z) := rfl
set_option maxRecDepth 100000 in
theorem b_X9_status_70 {C : xC} {Q : xQ} {K : xK} {I : xI} {L : xL} {z : Bool × Bool × Nat} {b : Nat × Nat} {a1 : Int32} {a2 : Int32} {a3 : Int32} :
  xrun k_X9_status 1 C Q [67, 70, 99, 112, 154] K 15 70 [some (.ref 66), some (.int a1), some (.int a2), some (.int a3)] [] (xS I L z) b =
  (if a3 < (I 66 9) then (if xin a3 (6) then K 70 [some (.ref 66), some (.int a1), some (.int (a2 ||| (1 <<< ((I 83 (Int32.toNatClampNeg a3)) &&& 31)))), some (.int (a3 + 1))] [] (xS I L z) b else False) else C 192 [.int a2] (xS I L z) (fun r τ => K 99 [some (.ref 66), some (.int a1), some (.int a2), some (.int a3)] (r.toList ++ []) τ b)) := rfl
set_option maxRecDepth 100000 in
theorem b_X9_status_112 {C : xC} {Q : xQ} {K : xK} {I : xI} {L : xL} {z : Bool × Bool × Nat} {b : Nat × Nat} {a1 : Int32} {a2 : Int32} {a3 : Int32} :
  xrun k_X9_status 1 C Q [67, 70, 99, 112, 154] K 15 112 [some (.ref 66), some (.int a1), some (.int a2), some (.int a3)] [] (xS I L z) b =
  (if a3 < 8 then (if xin a3 (8) then (if (I 67 (Int32.toNatClampNeg a3)) = 0 then K 112 [some (.ref 66), some (.int a1), some (.int (a2 + 0)), some (.int (a3 + 1))] [] (xS I L z) b else K 112 [some (.ref 66), some (.int a1), some (.int (a2 + 1)), some (.int (a3 + 1))] [] (xS I L z) b) else False) else Q (some (.int a2)) (xS I L z)) := rfl
set_option maxRecDepth 100000 in
theorem b_X9_status_154 {C : xC} {Q : xQ} {K : xK} {I : xI} {L : xL} {z : Bool × Bool × Nat} {b : Nat × Nat} {a1 : Int32} {a2 : Int32} {s0 : Int32} :
  xrun k_X9_status 1 C Q [67, 70, 99, 112, 154] K 9 154 [some (.ref 66), some (.int a1), some (.int a2), none] [.int s0] (xS I L z) b =
  (if s0 = 0 then Q (some (.int (-1 : Int32))) (xS I L z) else (if xin (a1 - 10) (8) then Q (some (.int (I 82 (Int32.toNatClampNeg (a1 - 10))))) (xS I L z) else False)) := rfl
set_option maxRecDepth 100000 in
theorem b_X9_status_99 {C : xC} {Q : xQ} {K : xK} {I : xI} {L : xL} {z : Bool × Bool × Nat} {b : Nat × Nat} {a1 : Int32} {a2 : Int32} {a3 : Int32} {s0 : Int32} :
  xrun k_X9_status 1 C Q [67, 70, 99, 112, 154] K 1 99 [some (.ref 66), some (.int a1), some (.int a2), some (.int a3)] [.int s0] (xS I L z) b =
  Q (some (.int s0)) (xS I L z) := rfl
set_option maxRecDepth 100000 in
theorem b_X0_tryPlace_0 {C : xC} {Q : xQ} {K : xK} {I : xI} {L : xL} {z : Bool × Bool × Nat} {b : Nat × Nat} {a1 : Int32} {a2 : Int32} {a3 : Int32} :
  xrun k_X0_tryPlace 0 C Q [28, 51] K 18 0 [some (.ref 50), some (.int a1), some (.int a2), some (.int a3)] [] (xS I L z) b =
  (if a1 < 0 then Q none (xS I L z) else (if a1 < 6 then (if ((a3 >>> (a2 &&& 31)) &&& 1) = 1 then Q none (xS I L z) else C 3 [.ref 50, .int a1, .int a2] (xS I L z) (fun r τ => K 28 [some (.ref 50), some (.int a1), some (.int a2), some (.int a3)] (r.toList ++ []) τ b)) else Q none (xS I L z))) := rfl
set_option maxRecDepth 100000 in
theorem b_X0_tryPlace_28 {C : xC} {Q : xQ} {K : xK} {I : xI} {L : xL} {z : Bool × Bool × Nat} {b : Nat × Nat} {a1 : Int32} {a2 : Int32} {a3 : Int32} {s0 : Int32} :
  xrun k_X0_tryPlace 0 C Q [28, 51] K 16 28 [some (.ref 50), some (.int a1), some (.int a2), some (.int a3)] [.int s0] (xS I L z) b =
  (if s0 = 0 then Q none (xS I L z) else (if xin a1 (6) then C 7 [.ref 50, .int (a1 + 1), .int (a3 ||| (1 <<< (a2 &&& 31)))] (xS (xw I 55 (Int32.toNatClampNeg a1) a2) L z) (fun r τ => K 51 [some (.ref 50), some (.int a1), some (.int a2), some (.int a3)] (r.toList ++ []) τ b) else False)) := rfl
set_option maxRecDepth 100000 in
theorem b_X0_tryPlace_51 {C : xC} {Q : xQ} {K : xK} {I : xI} {L : xL} {z : Bool × Bool × Nat} {b : Nat × Nat} {a1 : Int32} {a2 : Int32} {a3 : Int32} :
  xrun k_X0_tryPlace 0 C Q [28, 51] K 1 51 [some (.ref 50), some (.int a1), some (.int a2), some (.int a3)] [] (xS I L z) b =
  Q none (xS I L z) := rfl
set_option maxRecDepth 100000 in
theorem b_J7_fill_53178_0 {C : xC} {Q : xQ} {K : xK} {I : xI} {L : xL} {z : Bool × Bool × Nat} {b : Nat × Nat} {a0 : Nat} {a1 : Int32} :
  xrun k_J7_fill_53178 0 C Q [5] K 5 0 [some (.ref a0), some (.int a1), none, none] [] (xS I L z) b =
  (bif xalive (112, bif z.1 then 158 else 112, bif z.2.1 then 204 else 158) a0 && Nat.ble 20 (xkind a0) && !(Nat.beq (xkind a0) 24) then K 5 [some (.ref a0), some (.int a1), some (.int 0), some (.int (Int32.ofNat (xlen z.2.2 (a0))))] [] (xS I L z) b else False) := rfl
set_option maxRecDepth 100000 in
theorem b_J7_fill_53178_5 {C : xC} {Q : xQ} {K : xK} {I : xI} {L : xL} {z : Bool × Bool × Nat} {b : Nat × Nat} {a0 : Nat} {a1 : Int32} {a2 : Int32} {a3 : Int32} :
  xrun k_J7_fill_53178 0 C Q [5] K 9 5 [some (.ref a0), some (.int a1), some (.int a2), some (.int a3)] [] (xS I L z) b =
  (if a2 < a3 then (bif xis (xS I L z) a0 20 && Nat.blt 8 a0 then (if xin a2 (xlen z.2.2 (a0)) then K 5 [some (.ref a0), some (.int a1), some (.int (a2 + 1)), some (.int a3)] [] (xS (xw I a0 (Int32.toNatClampNeg a2) a1) L z) b else False) else False) else Q none (xS I L z)) := rfl
