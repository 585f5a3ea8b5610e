set_option maxRecDepth 100000 in
theorem b_X8_next_0 {C : xC} {Q : xQ} {K : xK} {I : xI} {L : xL} {z : Bool × Bool × Nat} {b : Nat × Nat} {a1 : Int32} :
  xrun k_X8_next 1 C Q [17, 25, 41, 50] K 9 0 [some (.ref 9), some (.int a1)] [] (xS I L z) b =
  (if a1 < 1 then C 177 [.ref 9, .int (-2 : Int32)] (xS I L z) (fun r τ => K 17 [some (.ref 9), some (.int a1)] (r.toList ++ []) τ b) else (if 15 < a1 then C 177 [.ref 9, .int (-2 : Int32)] (xS I L z) (fun r τ => K 17 [some (.ref 9), some (.int a1)] (r.toList ++ []) τ b) else C 114 [.ref 37] (xS I L z) (fun r τ => K 25 [some (.ref 9), some (.int a1)] (r.toList ++ []) τ b))) := rfl
set_option maxRecDepth 100000 in
theorem b_X8_next_17 {C : xC} {Q : xQ} {K : xK} {I : xI} {L : xL} {z : Bool × Bool × Nat} {b : Nat × Nat} {a1 : Int32} {s0 : Int32} :
  xrun k_X8_next 1 C Q [17, 25, 41, 50] K 1 17 [some (.ref 9), some (.int a1)] [.int s0] (xS I L z) b =
  Q (some (.int s0)) (xS I L z) := rfl
set_option maxRecDepth 100000 in
theorem b_X8_next_25 {C : xC} {Q : xQ} {K : xK} {I : xI} {L : xL} {z : Bool × Bool × Nat} {b : Nat × Nat} {a1 : Int32} :
  xrun k_X8_next 1 C Q [17, 25, 41, 50] K 8 25 [some (.ref 9), some (.int a1)] [] (xS I L z) b =
  (if (I 37 1) = 0 then C 177 [.ref 9, .int (-5 : Int32)] (xS I L z) (fun r τ => K 41 [some (.ref 9), some (.int a1)] (r.toList ++ []) τ b) else C 20 [.ref 43, .int a1] (xS I L z) (fun r τ => K 50 [some (.ref 9), some (.int a1)] (r.toList ++ []) τ b)) := rfl
set_option maxRecDepth 100000 in
theorem b_X8_next_41 {C : xC} {Q : xQ} {K : xK} {I : xI} {L : xL} {z : Bool × Bool × Nat} {b : Nat × Nat} {a1 : Int32} {s0 : Int32} :
  xrun k_X8_next 1 C Q [17, 25, 41, 50] K 1 41 [some (.ref 9), some (.int a1)] [.int s0] (xS I L z) b =
  Q (some (.int s0)) (xS I L z) := rfl
set_option maxRecDepth 100000 in
theorem b_X8_next_50 {C : xC} {Q : xQ} {K : xK} {I : xI} {L : xL} {z : Bool × Bool × Nat} {b : Nat × Nat} {a1 : Int32} {s0 : Int32} :
  xrun k_X8_next 1 C Q [17, 25, 41, 50] K 1 50 [some (.ref 9), some (.int a1)] [.int s0] (xS I L z) b =
  Q (some (.int s0)) (xS I L z) := rfl
set_option maxRecDepth 100000 in
theorem b_X8_fewest_0 {C : xC} {Q : xQ} {K : xK} {I : xI} {L : xL} {z : Bool × Bool × Nat} {b : Nat × Nat} {a1 : Int32} :
  xrun k_X8_fewest 1 C Q [17, 25, 53, 62] K 9 0 [some (.ref 9), some (.int a1)] [] (xS I L z) b =
  (if a1 < 1 then C 177 [.ref 9, .int (-2 : Int32)] (xS I L z) (fun r τ => K 17 [some (.ref 9), some (.int a1)] (r.toList ++ []) τ b) else (if 15 < a1 then C 177 [.ref 9, .int (-2 : Int32)] (xS I L z) (fun r τ => K 17 [some (.ref 9), some (.int a1)] (r.toList ++ []) τ b) else C 114 [.ref 37] (xS I L z) (fun r τ => K 25 [some (.ref 9), some (.int a1)] (r.toList ++ []) τ b))) := rfl
set_option maxRecDepth 100000 in
theorem b_X8_fewest_17 {C : xC} {Q : xQ} {K : xK} {I : xI} {L : xL} {z : Bool × Bool × Nat} {b : Nat × Nat} {a1 : Int32} {s0 : Int32} :
  xrun k_X8_fewest 1 C Q [17, 25, 53, 62] K 1 17 [some (.ref 9), some (.int a1)] [.int s0] (xS I L z) b =
  Q (some (.int s0)) (xS I L z) := rfl
set_option maxRecDepth 100000 in
theorem b_X8_fewest_25 {C : xC} {Q : xQ} {K : xK} {I : xI} {L : xL} {z : Bool × Bool × Nat} {b : Nat × Nat} {a1 : Int32} :
  xrun k_X8_fewest 1 C Q [17, 25, 53, 62] K 13 25 [some (.ref 9), some (.int a1)] [] (xS I L z) b =
  (if (I 37 1) = 0 then C 177 [.ref 9, .int (-5 : Int32)] (xS I L z) (fun r τ => K 53 [some (.ref 9), some (.int a1)] (r.toList ++ []) τ b) else (if 24 < (I 37 1) then C 177 [.ref 9, .int (-5 : Int32)] (xS I L z) (fun r τ => K 53 [some (.ref 9), some (.int a1)] (r.toList ++ []) τ b) else C 27 [.ref 43, .int a1] (xS I L z) (fun r τ => K 62 [some (.ref 9), some (.int a1)] (r.toList ++ []) τ b))) := rfl
set_option maxRecDepth 100000 in
theorem b_X8_fewest_53 {C : xC} {Q : xQ} {K : xK} {I : xI} {L : xL} {z : Bool × Bool × Nat} {b : Nat × Nat} {a1 : Int32} {s0 : Int32} :
  xrun k_X8_fewest 1 C Q [17, 25, 53, 62] K 1 53 [some (.ref 9), some (.int a1)] [.int s0] (xS I L z) b =
  Q (some (.int s0)) (xS I L z) := rfl
set_option maxRecDepth 100000 in
theorem b_X8_fewest_62 {C : xC} {Q : xQ} {K : xK} {I : xI} {L : xL} {z : Bool × Bool × Nat} {b : Nat × Nat} {a1 : Int32} {s0 : Int32} :
  xrun k_X8_fewest 1 C Q [17, 25, 53, 62] K 1 62 [some (.ref 9), some (.int a1)] [.int s0] (xS I L z) b =
  Q (some (.int s0)) (xS I L z) := rfl
set_option maxRecDepth 100000 in
theorem b_X8_apart_0 {C : xC} {Q : xQ} {K : xK} {I : xI} {L : xL} {z : Bool × Bool × Nat} {b : Nat × Nat}  :
  xrun k_X8_apart 1 C Q [7, 23, 31] K 3 0 [some (.ref 9)] [] (xS I L z) b =
  C 114 [.ref 37] (xS I L z) (fun r τ => K 7 [some (.ref 9)] (r.toList ++ []) τ b) := rfl
set_option maxRecDepth 100000 in
theorem b_X8_apart_7 {C : xC} {Q : xQ} {K : xK} {I : xI} {L : xL} {z : Bool × Bool × Nat} {b : Nat × Nat}  :
  xrun k_X8_apart 1 C Q [7, 23, 31] K 7 7 [some (.ref 9)] [] (xS I L z) b =
  (if (I 37 1) = 0 then C 177 [.ref 9, .int (-5 : Int32)] (xS I L z) (fun r τ => K 23 [some (.ref 9)] (r.toList ++ []) τ b) else C 21 [.ref 43] (xS I L z) (fun r τ => K 31 [some (.ref 9)] (r.toList ++ []) τ b)) := rfl
set_option maxRecDepth 100000 in
theorem b_X8_apart_23 {C : xC} {Q : xQ} {K : xK} {I : xI} {L : xL} {z : Bool × Bool × Nat} {b : Nat × Nat} {s0 : Int32} :
  xrun k_X8_apart 1 C Q [7, 23, 31] K 1 23 [some (.ref 9)] [.int s0] (xS I L z) b =
  Q (some (.int s0)) (xS I L z) := rfl
set_option maxRecDepth 100000 in
theorem b_X8_apart_31 {C : xC} {Q : xQ} {K : xK} {I : xI} {L : xL} {z : Bool × Bool × Nat} {b : Nat × Nat} {s0 : Int32} :
  xrun k_X8_apart 1 C Q [7, 23, 31] K 1 31 [some (.ref 9)] [.int s0] (xS I L z) b =
  Q (some (.int s0)) (xS I L z) := rfl
set_option maxRecDepth 100000 in
theorem b_X8_marks_0 {C : xC} {Q : xQ} {K : xK} {I : xI} {L : xL} {z : Bool × Bool × Nat} {b : Nat × Nat} {a1 : Int32} :
  xrun k_X8_marks 1 C Q [16, 24, 32] K 8 0 [some (.ref 9), some (.int a1)] [] (xS I L z) b =
  (if a1 < 0 then C 177 [.ref 9, .int (-2 : Int32)] (xS I L z) (fun r τ => K 16 [some (.ref 9), some (.int a1)] (r.toList ++ []) τ b) else (if 15 < a1 then C 177 [.ref 9, .int (-2 : Int32)] (xS I L z) (fun r τ => K 16 [some (.ref 9), some (.int a1)] (r.toList ++ []) τ b) else C 114 [.ref 37] (xS I L z) (fun r τ => K 24 [some (.ref 9), some (.int a1)] (r.toList ++ []) τ b))) := rfl
set_option maxRecDepth 100000 in
theorem b_X8_marks_16 {C : xC} {Q : xQ} {K : xK} {I : xI} {L : xL} {z : Bool × Bool × Nat} {b : Nat × Nat} {a1 : Int32} {s0 : Int32} :
  xrun k_X8_marks 1 C Q [16, 24, 32] K 1 16 [some (.ref 9), some (.int a1)] [.int s0] (xS I L z) b =
  Q (some (.int s0)) (xS I L z) := rfl
set_option maxRecDepth 100000 in
theorem b_X8_marks_24 {C : xC} {Q : xQ} {K : xK} {I : xI} {L : xL} {z : Bool × Bool × Nat} {b : Nat × Nat} {a1 : Int32} :
  xrun k_X8_marks 1 C Q [16, 24, 32] K 4 24 [some (.ref 9), some (.int a1)] [] (xS I L z) b =
  C 23 [.ref 43, .int a1] (xS I L z) (fun r τ => K 32 [some (.ref 9), some (.int a1)] (r.toList ++ []) τ b) := rfl
set_option maxRecDepth 100000 in
theorem b_X8_marks_32 {C : xC} {Q : xQ} {K : xK} {I : xI} {L : xL} {z : Bool × Bool × Nat} {b : Nat × Nat} {a1 : Int32} {s0 : Int32} :
  xrun k_X8_marks 1 C Q [16, 24, 32] K 1 32 [some (.ref 9), some (.int a1)] [.int s0] (xS I L z) b =
  Q (some (.int s0)) (xS I L z) := rfl
set_option maxRecDepth 100000 in
theorem b_X8_judge_0 {C : xC} {Q : xQ} {K : xK} {I : xI} {L : xL} {z : Bool × Bool × Nat} {b : Nat × Nat} {a1 : Int32} :
  xrun k_X8_judge 1 C Q [5, 15, 27] K 3 0 [some (.ref 9), some (.int a1), none] [] (xS I L z) b =
  C 178 [.ref 9, .int a1] (xS I L z) (fun r τ => K 5 [some (.ref 9), some (.int a1), none] (r.toList ++ []) τ b) := rfl
set_option maxRecDepth 100000 in
theorem b_X8_judge_5 {C : xC} {Q : xQ} {K : xK} {I : xI} {L : xL} {z : Bool × Bool × Nat} {b : Nat × Nat} {a1 : Int32} {s0 : Int32} :
  xrun k_X8_judge 1 C Q [5, 15, 27] K 8 5 [some (.ref 9), some (.int a1), none] [.int s0] (xS I L z) b =
  (if s0 = 0 then C 1 [.ref 50, .ref 64] (xS I L z) (fun r τ => K 27 [some (.ref 9), some (.int a1), some (.int s0)] (r.toList ++ []) τ b) else C 177 [.ref 9, .int s0] (xS I L z) (fun r τ => K 15 [some (.ref 9), some (.int a1), some (.int s0)] (r.toList ++ []) τ b)) := rfl
set_option maxRecDepth 100000 in
theorem b_X8_judge_15 {C : xC} {Q : xQ} {K : xK} {I : xI} {L : xL} {z : Bool × Bool × Nat} {b : Nat × Nat} {a1 : Int32} {a2 : Int32} {s0 : Int32} :
  xrun k_X8_judge 1 C Q [5, 15, 27] K 1 15 [some (.ref 9), some (.int a1), some (.int a2)] [.int s0] (xS I L z) b =
  Q (some (.int s0)) (xS I L z) := rfl
set_option maxRecDepth 100000 in
theorem b_X8_judge_27 {C : xC} {Q : xQ} {K : xK} {I : xI} {L : xL} {z : Bool × Bool × Nat} {b : Nat × Nat} {a1 : Int32} {a2 : Int32} {s0 : Int32} :
  xrun k_X8_judge 1 C Q [5, 15, 27] K 1 27 [some (.ref 9), some (.int a1), some (.int a2)] [.int s0] (xS I L z) b =
  Q (some (.int s0)) (xS I L z) := rfl
set_option maxRecDepth 100000 in
theorem b_X8_handing_0 {C : xC} {Q : xQ} {K : xK} {I : xI} {L : xL} {z : Bool × Bool × Nat} {b : Nat × Nat} {a1 : Int32} {a2 : Int32} :
  xrun k_X8_handing 1 C Q [15, 21, 31, 43, 53, 70, 78, 93, 107] K 8 0 [some (.ref 9), some (.int a1), some (.int a2), none] [] (xS I L z) b =
  (if a2 < 0 then C 177 [.ref 9, .int (-2 : Int32)] (xS I L z) (fun r τ => K 15 [some (.ref 9), some (.int a1), some (.int a2), none] (r.toList ++ []) τ b) else (if 2 < a2 then C 177 [.ref 9, .int (-2 : Int32)] (xS I L z) (fun r τ => K 15 [some (.ref 9), some (.int a1), some (.int a2), none] (r.toList ++ []) τ b) else C 178 [.ref 9, .int a1] (xS I L z) (fun r τ => K 21 [some (.ref 9), some (.int a1), some (.int a2), none] (r.toList ++ []) τ b))) := rfl
set_option maxRecDepth 100000 in
theorem b_X8_handing_15 {C : xC} {Q : xQ} {K : xK} {I : xI} {L : xL} {z : Bool × Bool × Nat} {b : Nat × Nat} {a1 : Int32} {a2 : Int32} {s0 : Int32} :
  xrun k_X8_handing 1 C Q [15, 21, 31, 43, 53, 70, 78, 93, 107] K 1 15 [some (.ref 9), some (.int a1), some (.int a2), none] [.int s0] (xS I L z) b =
  Q (some (.int s0)) (xS I L z) := rfl
set_option maxRecDepth 100000 in
theorem b_X8_handing_21 {C : xC} {Q : xQ} {K : xK} {I : xI} {L : xL} {z : Bool × Bool × Nat} {b : Nat × Nat} {a1 : Int32} {a2 : Int32} {s0 : Int32} :
  xrun k_X8_handing 1 C Q [15, 21, 31, 43, 53, 70, 78, 93, 107] K 8 21 [some (.ref 9), some (.int a1), some (.int a2), none] [.int s0] (xS I L z) b =
  (if s0 = 0 then C 1 [.ref 50, .ref 64] (xS I L z) (fun r τ => K 43 [some (.ref 9), some (.int a1), some (.int a2), some (.int s0)] (r.toList ++ []) τ b) else C 177 [.ref 9, .int s0] (xS I L z) (fun r τ => K 31 [some (.ref 9), some (.int a1), some (.int a2), some (.int s0)] (r.toList ++ []) τ b)) := rfl
set_option maxRecDepth 100000 in
theorem b_X8_handing_31 {C : xC} {Q : xQ} {K : xK} {I : xI} {L : xL} {z : Bool × Bool × Nat} {b : Nat × Nat} {a1 : Int32} {a2 : Int32} {a3 : Int32} {s0 : Int32} :
  xrun k_X8_handing 1 C Q [15, 21, 31, 43, 53, 70, 78, 93, 107] K 1 31 [some (.ref 9), some (.int a1), some (.int a2), some (.int a3)] [.int s0] (xS I L z) b =
  Q (some (.int s0)) (xS I L z) := rfl
set_option maxRecDepth 100000 in
theorem b_X8_handing_43 {C : xC} {Q : xQ} {K : xK} {I : xI} {L : xL} {z : Bool × Bool × Nat} {b : Nat × Nat} {a1 : Int32} {a2 : Int32} {a3 : Int32} {s0 : Int32} :
  xrun k_X8_handing 1 C Q [15, 21, 31, 43, 53, 70, 78, 93, 107] K 10 43 [some (.ref 9), some (.int a1), some (.int a2), some (.int a3)] [.int s0] (xS I L z) b =
  (if s0 = (-1 : Int32) then (if a2 = 1 then C 6 [.ref 50, .ref 64] (xS I L z) (fun r τ => K 70 [some (.ref 9), some (.int a1), some (.int a2), some (.int a3)] (r.toList ++ []) τ b) else C 114 [.ref 37] (xS I L z) (fun r τ => K 78 [some (.ref 9), some (.int a1), some (.int a2), some (.int a3)] (r.toList ++ []) τ b)) else C 177 [.ref 9, .int (-5 : Int32)] (xS I L z) (fun r τ => K 53 [some (.ref 9), some (.int a1), some (.int a2), some (.int a3)] (r.toList ++ []) τ b)) := rfl
set_option maxRecDepth 100000 in
theorem b_X8_handing_53 {C : xC} {Q : xQ} {K : xK} {I : xI} {L : xL} {z : Bool × Bool × Nat} {b : Nat × Nat} {a1 : Int32} {a2 : Int32} {a3 : Int32} {s0 : Int32} :
  xrun k_X8_handing 1 C Q [15, 21, 31, 43, 53, 70, 78, 93, 107] K 1 53 [some (.ref 9), some (.int a1), some (.int a2), some (.int a3)] [.int s0] (xS I L z) b =
  Q (some (.int s0)) (xS I L z) := rfl
set_option maxRecDepth 100000 in
theorem b_X8_handing_70 {C : xC} {Q : xQ} {K : xK} {I : xI} {L : xL} {z : Bool × Bool × Nat} {b : Nat × Nat} {a1 : Int32} {a2 : Int32} {a3 : Int32} {s0 : Int32} :
  xrun k_X8_handing 1 C Q [15, 21, 31, 43, 53, 70, 78, 93, 107] K 1 70 [some (.ref 9), some (.int a1), some (.int a2), some (.int a3)] [.int s0] (xS I L z) b =
  Q (some (.int s0)) (xS I L z) := rfl
set_option maxRecDepth 100000 in
theorem b_X8_handing_78 {C : xC} {Q : xQ} {K : xK} {I : xI} {L : xL} {z : Bool × Bool × Nat} {b : Nat × Nat} {a1 : Int32} {a2 : Int32} {a3 : Int32} :
  xrun k_X8_handing 1 C Q [15, 21, 31, 43, 53, 70, 78, 93, 107] K 7 78 [some (.ref 9), some (.int a1), some (.int a2), some (.int a3)] [] (xS I L z) b =
  (if a2 = 0 then C 4 [.ref 50, .ref 64] (xS I L z) (fun r τ => K 93 [some (.ref 9), some (.int a1), some (.int a2), some (.int a3)] (r.toList ++ []) τ b) else C 5 [.ref 50, .ref 64] (xS I L z) (fun r τ => K 107 [some (.ref 9), some (.int a1), some (.int a2), some (.int a3)] (r.toList ++ []) τ b)) := rfl
set_option maxRecDepth 100000 in
theorem b_X8_handing_93 {C : xC} {Q : xQ} {K : xK} {I : xI} {L : xL} {z : Bool × Bool × Nat} {b : Nat × Nat} {a1 : Int32} {a2 : Int32} {a3 : Int32} {s0 : Int32} :
  xrun k_X8_handing 1 C Q [15, 21, 31, 43, 53, 70, 78, 93, 107] K 1 93 [some (.ref 9), some (.int a1), some (.int a2), some (.int a3)] [.int s0] (xS I L z) b =
  K 107 [some (.ref 9), some (.int a1), some (.int a2), some (.int a3)] [.int s0] (xS I L z) b := rfl
set_option maxRecDepth 100000 in
theorem b_X8_handing_107 {C : xC} {Q : xQ} {K : xK} {I : xI} {L : xL} {z : Bool × Bool × Nat} {b : Nat × Nat} {a1 : Int32} {a2 : Int32} {a3 : Int32} {s0 : Int32} :
  xrun k_X8_handing 1 C Q [15, 21, 31, 43, 53, 70, 78, 93, 107] K 1 107 [some (.ref 9), some (.int a1), some (.int a2), some (.int a3)] [.int s0] (xS I L z) b =
  Q (some (.int s0)) (xS I L z) := rfl
set_option maxRecDepth 100000 in
theorem b_X8_best_0 {C : xC} {Q : xQ} {K : xK} {I : xI} {L : xL} {z : Bool × Bool × Nat} {b : Nat × Nat} {a1 : Int32} :
  xrun k_X8_best 1 C Q [13, 22, 30, 37, 49, 60] K 7 0 [some (.ref 9), some (.int a1)] [] (xS I L z) b =
  (if a1 = (-1 : Int32) then C 114 [.ref 37] (xS I L z) (fun r τ => K 30 [some (.ref 9), some (.int a1)] (r.toList ++ []) τ b) else C 82 [.ref 10, .int a1] (xS I L z) (fun r τ => K 13 [some (.ref 9), some (.int a1)] (r.toList ++ []) τ b)) := rfl
set_option maxRecDepth 100000 in
theorem b_X8_best_13 {C : xC} {Q : xQ} {K : xK} {I : xI} {L : xL} {z : Bool × Bool × Nat} {b : Nat × Nat} {a1 : Int32} {s0 : Int32} :
  xrun k_X8_best 1 C Q [13, 22, 30, 37, 49, 60] K 4 13 [some (.ref 9), some (.int a1)] [.int s0] (xS I L z) b =
  (if s0 = 0 then C 177 [.ref 9, .int (-2 : Int32)] (xS I L z) (fun r τ => K 22 [some (.ref 9), some (.int a1)] (r.toList ++ []) τ b) else C 114 [.ref 37] (xS I L z) (fun r τ => K 30 [some (.ref 9), some (.int a1)] (r.toList ++ []) τ b)) := rfl
set_option maxRecDepth 100000 in
theorem b_X8_best_30 {C : xC} {Q : xQ} {K : xK} {I : xI} {L : xL} {z : Bool × Bool × Nat} {b : Nat × Nat} {a1 : Int32} :
  xrun k_X8_best 1 C Q [13, 22, 30, 37, 49, 60] K 3 30 [some (.ref 9), some (.int a1)] [] (xS I L z) b =
  C 10 [.ref 50] (xS I L z) (fun r τ => K 37 [some (.ref 9), some (.int a1)] (r.toList ++ []) τ b) := rfl
set_option maxRecDepth 100000 in
theorem b_X8_best_22 {C : xC} {Q : xQ} {K : xK} {I : xI} {L : xL} {z : Bool × Bool × Nat} {b : Nat × Nat} {a1 : Int32} {s0 : Int32} :
  xrun k_X8_best 1 C Q [13, 22, 30, 37, 49, 60] K 1 22 [some (.ref 9), some (.int a1)] [.int s0] (xS I L z) b =
  Q (some (.int s0)) (xS I L z) := rfl
set_option maxRecDepth 100000 in
theorem b_X8_best_37 {C : xC} {Q : xQ} {K : xK} {I : xI} {L : xL} {z : Bool × Bool × Nat} {b : Nat × Nat} {a1 : Int32} :
  xrun k_X8_best 1 C Q [13, 22, 30, 37, 49, 60] K 7 37 [some (.ref 9), some (.int a1)] [] (xS I L z) b =
  (if a1 = (-1 : Int32) then C 14 [.ref 50] (xS I L z) (fun r τ => K 49 [some (.ref 9), some (.int a1)] (r.toList ++ []) τ b) else C 15 [.ref 50, .int a1] (xS I L z) (fun r τ => K 60 [some (.ref 9), some (.int a1)] (r.toList ++ []) τ b)) := rfl
set_option maxRecDepth 100000 in
theorem b_X8_best_49 {C : xC} {Q : xQ} {K : xK} {I : xI} {L : xL} {z : Bool × Bool × Nat} {b : Nat × Nat} {a1 : Int32} {s0 : Int32} :
  xrun k_X8_best 1 C Q [13, 22, 30, 37, 49, 60] K 1 49 [some (.ref 9), some (.int a1)] [.int s0] (xS I L z) b =
  K 60 [some (.ref 9), some (.int a1)] [.int s0] (xS I L z) b := rfl
set_option maxRecDepth 100000 in
theorem b_X8_best_60 {C : xC} {Q : xQ} {K : xK} {I : xI} {L : xL} {z : Bool × Bool × Nat} {b : Nat × Nat} {a1 : Int32} {s0 : Int32} :
  xrun k_X8_best 1 C Q [13, 22, 30, 37, 49, 60] K 1 60 [some (.ref 9), some (.int a1)] [.int s0] (xS I L z) b =
  Q (some (.int s0)) (xS I L z) := rfl
set_option maxRecDepth 100000 in
theorem b_X8_mind_0 {C : xC} {Q : xQ} {K : xK} {I : xI} {L : xL} {z : Bool × Bool × Nat} {b : Nat × Nat} {a1 : Int32} {a2 : Int32} :
  xrun k_X8_mind 1 C Q [8, 19, 28, 36, 45] K 4 0 [some (.ref 9), some (.int a1), some (.int a2)] [] (xS I L z) b =
  C 82 [.ref 10, .int a1] (xS I L z) (fun r τ => K 8 [some (.ref 9), some (.int a1), some (.int a2)] (r.toList ++ []) τ b) := rfl
set_option maxRecDepth 100000 in
theorem b_X8_mind_8 {C : xC} {Q : xQ} {K : xK} {I : xI} {L : xL} {z : Bool × Bool × Nat} {b : Nat × Nat} {a1 : Int32} {a2 : Int32} {s0 : Int32} :
  xrun k_X8_mind 1 C Q [8, 19, 28, 36, 45] K 5 8 [some (.ref 9), some (.int a1), some (.int a2)] [.int s0] (xS I L z) b =
  (if s0 = 0 then C 177 [.ref 9, .int (-2 : Int32)] (xS I L z) (fun r τ => K 28 [some (.ref 9), some (.int a1), some (.int a2)] (r.toList ++ []) τ b) else C 82 [.ref 10, .int a2] (xS I L z) (fun r τ => K 19 [some (.ref 9), some (.int a1), some (.int a2)] (r.toList ++ []) τ b)) := rfl
set_option maxRecDepth 100000 in
theorem b_X8_mind_19 {C : xC} {Q : xQ} {K : xK} {I : xI} {L : xL} {z : Bool × Bool × Nat} {b : Nat × Nat} {a1 : Int32} {a2 : Int32} {s0 : Int32} :
  xrun k_X8_mind 1 C Q [8, 19, 28, 36, 45] K 4 19 [some (.ref 9), some (.int a1), some (.int a2)] [.int s0] (xS I L z) b =
  (if s0 = 0 then C 177 [.ref 9, .int (-2 : Int32)] (xS I L z) (fun r τ => K 28 [some (.ref 9), some (.int a1), some (.int a2)] (r.toList ++ []) τ b) else C 114 [.ref 37] (xS I L z) (fun r τ => K 36 [some (.ref 9), some (.int a1), some (.int a2)] (r.toList ++ []) τ b)) := rfl
set_option maxRecDepth 100000 in
theorem b_X8_mind_28 {C : xC} {Q : xQ} {K : xK} {I : xI} {L : xL} {z : Bool × Bool × Nat} {b : Nat × Nat} {a1 : Int32} {a2 : Int32} {s0 : Int32} :
  xrun k_X8_mind 1 C Q [8, 19, 28, 36, 45] K 1 28 [some (.ref 9), some (.int a1), some (.int a2)] [.int s0] (xS I L z) b =
  Q (some (.int s0)) (xS I L z) := rfl
set_option maxRecDepth 100000 in
theorem b_X8_mind_36 {C : xC} {Q : xQ} {K : xK} {I : xI} {L : xL} {z : Bool × Bool × Nat} {b : Nat × Nat} {a1 : Int32} {a2 : Int32} :
  xrun k_X8_mind 1 C Q [8, 19, 28, 36, 45] K 5 36 [some (.ref 9), some (.int a1), some (.int a2)] [] (xS I L z) b =
  C 2 [.ref 50, .int a1, .int a2] (xS I L z) (fun r τ => K 45 [some (.ref 9), some (.int a1), some (.int a2)] (r.toList ++ []) τ b) := rfl
set_option maxRecDepth 100000 in
theorem b_X8_mind_45 {C : xC} {Q : xQ} {K : xK} {I : xI} {L : xL} {z : Bool × Bool × Nat} {b : Nat × Nat} {a1 : Int32} {a2 : Int32} {s0 : Int32} :
  xrun k_X8_mind 1 C Q [8, 19, 28, 36, 45] K 1 45 [some (.ref 9), some (.int a1), some (.int a2)] [.int s0] (xS I L z) b =
  Q (some (.int s0)) (xS I L z) := rfl
set_option maxRecDepth 100000 in
theorem b_X8_tells_0 {C : xC} {Q : xQ} {K : xK} {I : xI} {L : xL} {z : Bool × Bool × Nat} {b : Nat × Nat} {a1 : Int32} :
  xrun k_X8_tells 1 C Q [8, 17, 25, 33] K 4 0 [some (.ref 9), some (.int a1)] [] (xS I L z) b =
  C 83 [.ref 10, .int a1] (xS I L z) (fun r τ => K 8 [some (.ref 9), some (.int a1)] (r.toList ++ []) τ b) := rfl
set_option maxRecDepth 100000 in
theorem b_X8_tells_8 {C : xC} {Q : xQ} {K : xK} {I : xI} {L : xL} {z : Bool × Bool × Nat} {b : Nat × Nat} {a1 : Int32} {s0 : Int32} :
  xrun k_X8_tells 1 C Q [8, 17, 25, 33] K 4 8 [some (.ref 9), some (.int a1)] [.int s0] (xS I L z) b =
  (if s0 = 0 then C 177 [.ref 9, .int (-2 : Int32)] (xS I L z) (fun r τ => K 17 [some (.ref 9), some (.int a1)] (r.toList ++ []) τ b) else C 114 [.ref 37] (xS I L z) (fun r τ => K 25 [some (.ref 9), some (.int a1)] (r.toList ++ []) τ b)) := rfl
set_option maxRecDepth 100000 in
theorem b_X8_tells_17 {C : xC} {Q : xQ} {K : xK} {I : xI} {L : xL} {z : Bool × Bool × Nat} {b : Nat × Nat} {a1 : Int32} {s0 : Int32} :
  xrun k_X8_tells 1 C Q [8, 17, 25, 33] K 1 17 [some (.ref 9), some (.int a1)] [.int s0] (xS I L z) b =
  Q (some (.int s0)) (xS I L z) := rfl
set_option maxRecDepth 100000 in
theorem b_X8_tells_25 {C : xC} {Q : xQ} {K : xK} {I : xI} {L : xL} {z : Bool × Bool × Nat} {b : Nat × Nat} {a1 : Int32} :
  xrun k_X8_tells 1 C Q [8, 17, 25, 33] K 4 25 [some (.ref 9), some (.int a1)] [] (xS I L z) b =
  C 75 [.ref 56, .int a1] (xS I L z) (fun r τ => K 33 [some (.ref 9), some (.int a1)] (r.toList ++ []) τ b) := rfl
set_option maxRecDepth 100000 in
theorem b_X8_tells_33 {C : xC} {Q : xQ} {K : xK} {I : xI} {L : xL} {z : Bool × Bool × Nat} {b : Nat × Nat} {a1 : Int32} {s0 : Int32} :
  xrun k_X8_tells 1 C Q [8, 17, 25, 33] K 1 33 [some (.ref 9), some (.int a1)] [.int s0] (xS I L z) b =
  Q (some (.int s0)) (xS I L z) := rfl
set_option maxRecDepth 100000 in
theorem b_X8_odd_0 {C : xC} {Q : xQ} {K : xK} {I : xI} {L : xL} {z : Bool × Bool × Nat} {b : Nat × Nat} {a1 : Int32} :
  xrun k_X8_odd 1 C Q [8, 17, 25, 33] K 4 0 [some (.ref 9), some (.int a1)] [] (xS I L z) b =
  C 82 [.ref 10, .int a1] (xS I L z) (fun r τ => K 8 [some (.ref 9), some (.int a1)] (r.toList ++ []) τ b) := rfl
set_option maxRecDepth 100000 in
theorem b_X8_odd_8 {C : xC} {Q : xQ} {K : xK} {I : xI} {L : xL} {z : Bool × Bool × Nat} {b : Nat × Nat} {a1 : Int32} {s0 : Int32} :
  xrun k_X8_odd 1 C Q [8, 17, 25, 33] K 4 8 [some (.ref 9), some (.int a1)] [.int s0] (xS I L z) b =
  (if s0 = 0 then C 177 [.ref 9, .int (-2 : Int32)] (xS I L z) (fun r τ => K 17 [some (.ref 9), some (.int a1)] (r.toList ++ []) τ b) else C 114 [.ref 37] (xS I L z) (fun r τ => K 25 [some (.ref 9), some (.int a1)] (r.toList ++ []) τ b)) := rfl
set_option maxRecDepth 100000 in
theorem b_X8_odd_17 {C : xC} {Q : xQ} {K : xK} {I : xI} {L : xL} {z : Bool × Bool × Nat} {b : Nat × Nat} {a1 : Int32} {s0 : Int32} :
  xrun k_X8_odd 1 C Q [8, 17, 25, 33] K 1 17 [some (.ref 9), some (.int a1)] [.int s0] (xS I L z) b =
  Q (some (.int s0)) (xS I L z) := rfl
set_option maxRecDepth 100000 in
theorem b_X8_odd_25 {C : xC} {Q : xQ} {K : xK} {I : xI} {L : xL} {z : Bool × Bool × Nat} {b : Nat × Nat} {a1 : Int32} :
  xrun k_X8_odd 1 C Q [8, 17, 25, 33] K 4 25 [some (.ref 9), some (.int a1)] [] (xS I L z) b =
  C 131 [.ref 37, .int a1] (xS I L z) (fun r τ => K 33 [some (.ref 9), some (.int a1)] (r.toList ++ []) τ b) := rfl
set_option maxRecDepth 100000 in
theorem b_X8_odd_33 {C : xC} {Q : xQ} {K : xK} {I : xI} {L : xL} {z : Bool × Bool × Nat} {b : Nat × Nat} {a1 : Int32} {s0 : Int32} :
  xrun k_X8_odd 1 C Q [8, 17, 25, 33] K 1 33 [some (.ref 9), some (.int a1)] [.int s0] (xS I L z) b =
  Q (some (.int s0)) (xS I L z) := rfl
set_option maxRecDepth 100000 in
theorem b_X8_turned_0 {C : xC} {Q : xQ} {K : xK} {I : xI} {L : xL} {z : Bool × Bool × Nat} {b : Nat × Nat}  :
  xrun k_X8_turned 1 C Q [7] K 3 0 [some (.ref 9)] [] (xS I L z) b =
  C 106 [.ref 10] (xS I L z) (fun r τ => K 7 [some (.ref 9)] (r.toList ++ []) τ b) := rfl
set_option maxRecDepth 100000 in
theorem b_X8_turned_7 {C : xC} {Q : xQ} {K : xK} {I : xI} {L : xL} {z : Bool × Bool × Nat} {b : Nat × Nat} {s0 : Int32} :
  xrun k_X8_turned 1 C Q [7] K 1 7 [some (.ref 9)] [.int s0] (xS I L z) b =
  Q (some (.int s0)) (xS I L z) := rfl
set_option maxRecDepth 100000 in
theorem b_X8_look_0 {C : xC} {Q : xQ} {K : xK} {I : xI} {L : xL} {z : Bool × Bool × Nat} {b : Nat × Nat} {a1 : Int32} {a2 : Int32} :
  xrun k_X8_look 1 C Q [8, 15, 24, 34, 45, 54] K 4 0 [some (.ref 9), some (.int a1), some (.int a2), none] [] (xS I L z) b =
  C 82 [.ref 10, .int a1] (xS I L z) (fun r τ => K 8 [some (.ref 9), some (.int a1), some (.int a2), none] (r.toList ++ []) τ b) := rfl
set_option maxRecDepth 100000 in
theorem b_X8_look_8 {C : xC} {Q : xQ} {K : xK} {I : xI} {L : xL} {z : Bool × Bool × Nat} {b : Nat × Nat} {a1 : Int32} {a2 : Int32} {s0 : Int32} :
  xrun k_X8_look 1 C Q [8, 15, 24, 34, 45, 54] K 4 8 [some (.ref 9), some (.int a1), some (.int a2), none] [.int s0] (xS I L z) b =
  (if s0 = 0 then C 177 [.ref 9, .int (-2 : Int32)] (xS I L z) (fun r τ => K 24 [some (.ref 9), some (.int a1), some (.int a2), none] (r.toList ++ []) τ b) else C 183 [.int a2] (xS I L z) (fun r τ => K 15 [some (.ref 9), some (.int a1), some (.int a2), none] (r.toList ++ []) τ b)) := rfl
set_option maxRecDepth 100000 in
theorem b_X8_look_15 {C : xC} {Q : xQ} {K : xK} {I : xI} {L : xL} {z : Bool × Bool × Nat} {b : Nat × Nat} {a1 : Int32} {a2 : Int32} {s0 : Int32} :
  xrun k_X8_look 1 C Q [8, 15, 24, 34, 45, 54] K 6 15 [some (.ref 9), some (.int a1), some (.int a2), none] [.int s0] (xS I L z) b =
  (if s0 = 0 then C 177 [.ref 9, .int (-2 : Int32)] (xS I L z) (fun r τ => K 24 [some (.ref 9), some (.int a1), some (.int a2), none] (r.toList ++ []) τ b) else C 97 [.ref 10, .int a1, .int a2] (xS I L z) (fun r τ => K 34 [some (.ref 9), some (.int a1), some (.int a2), none] (r.toList ++ []) τ b)) := rfl
set_option maxRecDepth 100000 in
theorem b_X8_look_24 {C : xC} {Q : xQ} {K : xK} {I : xI} {L : xL} {z : Bool × Bool × Nat} {b : Nat × Nat} {a1 : Int32} {a2 : Int32} {s0 : Int32} :
  xrun k_X8_look 1 C Q [8, 15, 24, 34, 45, 54] K 1 24 [some (.ref 9), some (.int a1), some (.int a2), none] [.int s0] (xS I L z) b =
  Q (some (.int s0)) (xS I L z) := rfl
set_option maxRecDepth 100000 in
theorem b_X8_look_34 {C : xC} {Q : xQ} {K : xK} {I : xI} {L : xL} {z : Bool × Bool × Nat} {b : Nat × Nat} {a1 : Int32} {a2 : Int32} {s0 : Int32} :
  xrun k_X8_look 1 C Q [8, 15, 24, 34, 45, 54] K 7 34 [some (.ref 9), some (.int a1), some (.int a2), none] [.int s0] (xS I L z) b =
  C 100 [.ref 10, .int a1, .int a2, .int s0] (xS I L z) (fun r τ => K 45 [some (.ref 9), some (.int a1), some (.int a2), some (.int s0)] (r.toList ++ []) τ b) := rfl
set_option maxRecDepth 100000 in
theorem b_X8_look_45 {C : xC} {Q : xQ} {K : xK} {I : xI} {L : xL} {z : Bool × Bool × Nat} {b : Nat × Nat} {a1 : Int32} {a2 : Int32} {a3 : Int32} {s0 : Int32} :
  xrun k_X8_look 1 C Q [8, 15, 24, 34, 45, 54] K 4 45 [some (.ref 9), some (.int a1), some (.int a2), some (.int a3)] [.int s0] (xS I L z) b =
  (if s0 = 0 then C 177 [.ref 9, .int (-6 : Int32)] (xS I L z) (fun r τ => K 54 [some (.ref 9), some (.int a1), some (.int a2), some (.int a3)] (r.toList ++ []) τ b) else Q (some (.int a3)) (xS I L z)) := rfl
set_option maxRecDepth 100000 in
theorem b_X8_look_54 {C : xC} {Q : xQ} {K : xK} {I : xI} {L : xL} {z : Bool × Bool × Nat} {b : Nat × Nat} {a1 : Int32} {a2 : Int32} {a3 : Int32} {s0 : Int32} :
  xrun k_X8_look 1 C Q [8, 15, 24, 34, 45, 54] K 1 54 [some (.ref 9), some (.int a1), some (.int a2), some (.int a3)] [.int s0] (xS I L z) b =
  Q (some (.int s0)) (xS I L z) := rfl
set_option maxRecDepth 100000 in
theorem b_X8_tries_0 {C : xC} {Q : xQ} {K : xK} {I : xI} {L : xL} {z : Bool × Bool × Nat} {b : Nat × Nat} {a1 : Int32} :
  xrun k_X8_tries 1 C Q [8, 17, 20, 33, 41, 72, 96, 99, 108] K 4 0 [some (.ref 9), some (.int a1), none, none, none, none] [] (xS I L z) b =
  C 83 [.ref 10, .int a1] (xS I L z) (fun r τ => K 8 [some (.ref 9), some (.int a1), none, none, none, none] (r.toList ++ []) τ b) := rfl
set_option maxRecDepth 100000 in
theorem b_X8_tries_8 {C : xC} {Q : xQ} {K : xK} {I : xI} {L : xL} {z : Bool × Bool × Nat} {b : Nat × Nat} {a1 : Int32} {s0 : Int32} :
  xrun k_X8_tries 1 C Q [8, 17, 20, 33, 41, 72, 96, 99, 108] K 4 8 [some (.ref 9), some (.int a1), none, none, none, none] [.int s0] (xS I L z) b =
  (if s0 = 0 then C 177 [.ref 9, .int (-2 : Int32)] (xS I L z) (fun r τ => K 17 [some (.ref 9), some (.int a1), none, none, none, none] (r.toList ++ []) τ b) else K 20 [some (.ref 9), some (.int a1), some (.int 0), none, none, none] [] (xS I L z) b) := rfl
set_option maxRecDepth 100000 in
theorem b_X8_tries_17 {C : xC} {Q : xQ} {K : xK} {I : xI} {L : xL} {z : Bool × Bool × Nat} {b : Nat × Nat} {a1 : Int32} {s0 : Int32} :
  xrun k_X8_tries 1 C Q [8, 17, 20, 33, 41, 72, 96, 99, 108] K 1 17 [some (.ref 9), some (.int a1), none, none, none, none] [.int s0] (xS I L z) b =
  Q (some (.int s0)) (xS I L z) := rfl
set_option maxRecDepth 100000 in
theorem b_X8_tries_20 {C : xC} {Q : xQ} {K : xK} {I : xI} {L : xL} {z : Bool × Bool × Nat} {b : Nat × Nat} {a1 : Int32} {a2 : Int32} :
  xrun k_X8_tries 1 C Q [8, 17, 20, 33, 41, 72, 96, 99, 108] K 6 20 [some (.ref 9), some (.int a1), some (.int a2), none, none, none] [] (xS I L z) b =
  (if 24 < a2 then Q (some (.int 24)) (xS I L z) else C 114 [.ref 37] (xS I L z) (fun r τ => K 33 [some (.ref 9), some (.int a1), some (.int a2), none, none, none] (r.toList ++ []) τ b)) := rfl
set_option maxRecDepth 100000 in
theorem b_X8_tries_33 {C : xC} {Q : xQ} {K : xK} {I : xI} {L : xL} {z : Bool × Bool × Nat} {b : Nat × Nat} {a1 : Int32} {a2 : Int32} :
  xrun k_X8_tries 1 C Q [8, 17, 20, 33, 41, 72, 96, 99, 108] K 4 33 [some (.ref 9), some (.int a1), some (.int a2), none, none, none] [] (xS I L z) b =
  C 75 [.ref 56, .int a1] (xS I L z) (fun r τ => K 41 [some (.ref 9), some (.int a1), some (.int a2), none, none, none] (r.toList ++ []) τ b) := rfl
set_option maxRecDepth 100000 in
theorem b_X8_tries_41 {C : xC} {Q : xQ} {K : xK} {I : xI} {L : xL} {z : Bool × Bool × Nat} {b : Nat × Nat} {a1 : Int32} {a2 : Int32} {s0 : Int32} :
  xrun k_X8_tries 1 C Q [8, 17, 20, 33, 41, 72, 96, 99, 108] K 17 41 [some (.ref 9), some (.int a1), some (.int a2), none, none, none] [.int s0] (xS I L z) b =
  (if s0 = (-1 : Int32) then Q (some (.int a2)) (xS I L z) else C 99 [.ref 10, .int (s0 / 10), .int (s0 - s0 / 10 * 10)] (xS I L z) (fun r τ => K 72 [some (.ref 9), some (.int a1), some (.int a2), some (.int s0), some (.int (s0 / 10)), some (.int (s0 - s0 / 10 * 10))] (r.toList ++ []) τ b)) := rfl
set_option maxRecDepth 100000 in
theorem b_X8_tries_72 {C : xC} {Q : xQ} {K : xK} {I : xI} {L : xL} {z : Bool × Bool × Nat} {b : Nat × Nat} {a1 : Int32} {a2 : Int32} {a3 : Int32} {a4 : Int32} {a5 : Int32} {s0 : Int32} :
  xrun k_X8_tries 1 C Q [8, 17, 20, 33, 41, 72, 96, 99, 108] K 10 72 [some (.ref 9), some (.int a1), some (.int a2), some (.int a3), some (.int a4), some (.int a5)] [.int s0] (xS I L z) b =
  (if s0 = 0 then C 97 [.ref 10, .int a4, .int a5] (xS I L z) (fun r τ => K 96 [some (.ref 9), some (.int a1), some (.int a2), some (.int a3), some (.int a4), some (.int a5)] (r.toList ++ [.int a5, .int a4, .ref 10]) τ b) else Q (some (.int a2)) (xS I L z)) := rfl
set_option maxRecDepth 100000 in
theorem b_X8_tries_96 {C : xC} {Q : xQ} {K : xK} {I : xI} {L : xL} {z : Bool × Bool × Nat} {b : Nat × Nat} {a1 : Int32} {a2 : Int32} {a3 : Int32} {a4 : Int32} {a5 : Int32} {s2 : Int32} {s1 : Int32} {s0 : Int32} :
  xrun k_X8_tries 1 C Q [8, 17, 20, 33, 41, 72, 96, 99, 108] K 1 96 [some (.ref 9), some (.int a1), some (.int a2), some (.int a3), some (.int a4), some (.int a5)] [.int s0, .int s1, .int s2, .ref 10] (xS I L z) b =
  C 100 [.ref 10, .int s2, .int s1, .int s0] (xS I L z) (fun r τ => K 99 [some (.ref 9), some (.int a1), some (.int a2), some (.int a3), some (.int a4), some (.int a5)] (r.toList ++ []) τ b) := rfl
set_option maxRecDepth 100000 in
theorem b_X8_tries_99 {C : xC} {Q : xQ} {K : xK} {I : xI} {L : xL} {z : Bool × Bool × Nat} {b : Nat × Nat} {a1 : Int32} {a2 : Int32} {a3 : Int32} {a4 : Int32} {a5 : Int32} {s0 : Int32} :
  xrun k_X8_tries 1 C Q [8, 17, 20, 33, 41, 72, 96, 99, 108] K 4 99 [some (.ref 9), some (.int a1), some (.int a2), some (.int a3), some (.int a4), some (.int a5)] [.int s0] (xS I L z) b =
  (if s0 = 0 then C 177 [.ref 9, .int (-6 : Int32)] (xS I L z) (fun r τ => K 108 [some (.ref 9), some (.int a1), some (.int a2), some (.int a3), some (.int a4), some (.int a5)] (r.toList ++ []) τ b) else K 20 [some (.ref 9), some (.int a1), some (.int (a2 + 1)), some (.int a3), some (.int a4), some (.int a5)] [] (xS I L z) b) := rfl
set_option maxRecDepth 100000 in
theorem b_X8_tries_108 {C : xC} {Q : xQ} {K : xK} {I : xI} {L : xL} {z : Bool × Bool × Nat} {b : Nat × Nat} {a1 : Int32} {a2 : Int32} {a3 : Int32} {a4 : Int32} {a5 : Int32} {s0 : Int32} :
  xrun k_X8_tries 1 C Q [8, 17, 20, 33, 41, 72, 96, 99, 108] K 1 108 [some (.ref 9), some (.int a1), some (.int a2), some (.int a3), some (.int a4), some (.int a5)] [.int s0] (xS I L z) b =
  Q (some (.int s0)) (xS I L z) := rfl
set_option maxRecDepth 100000 in
theorem b_X8_stairs_0 {C : xC} {Q : xQ} {K : xK} {I : xI} {L : xL} {z : Bool × Bool × Nat} {b : Nat × Nat}  :
  xrun k_X8_stairs 1 C Q [7, 31, 34, 37] K 3 0 [some (.ref 9), none] [] (xS I L z) b =
  C 114 [.ref 37] (xS I L z) (fun r τ => K 7 [some (.ref 9), none] (r.toList ++ []) τ b) := rfl
set_option maxRecDepth 100000 in
theorem b_X8_stairs_7 {C : xC} {Q : xQ} {K : xK} {I : xI} {L : xL} {z : Bool × Bool × Nat} {b : Nat × Nat}  :
  xrun k_X8_stairs 1 C Q [7, 31, 34, 37] K 12 7 [some (.ref 9), none] [] (xS I L z) b =
  C 108 [.ref 10, .int (I 37 0)] (xS I L z) (fun r τ => K 31 [some (.ref 9), some (.int (I 37 0))] (r.toList ++ [.ref 37, .ref 10]) τ b) := rfl
set_option maxRecDepth 100000 in
theorem b_X8_stairs_31 {C : xC} {Q : xQ} {K : xK} {I : xI} {L : xL} {z : Bool × Bool × Nat} {b : Nat × Nat} {a1 : Int32} {s0 : Int32} :
  xrun k_X8_stairs 1 C Q [7, 31, 34, 37] K 1 31 [some (.ref 9), some (.int a1)] [.int s0, .ref 37, .ref 10] (xS I L z) b =
  C 122 [.ref 37, .int s0] (xS I L z) (fun r τ => K 34 [some (.ref 9), some (.int a1)] (r.toList ++ [.ref 10]) τ b) := rfl
set_option maxRecDepth 100000 in
theorem b_X8_stairs_34 {C : xC} {Q : xQ} {K : xK} {I : xI} {L : xL} {z : Bool × Bool × Nat} {b : Nat × Nat} {a1 : Int32} {s0 : Int32} :
  xrun k_X8_stairs 1 C Q [7, 31, 34, 37] K 1 34 [some (.ref 9), some (.int a1)] [.int s0, .ref 10] (xS I L z) b =
  C 90 [.ref 10, .int s0] (xS I L z) (fun r τ => K 37 [some (.ref 9), some (.int a1)] (r.toList ++ []) τ b) := rfl
set_option maxRecDepth 100000 in
theorem b_X8_stairs_37 {C : xC} {Q : xQ} {K : xK} {I : xI} {L : xL} {z : Bool × Bool × Nat} {b : Nat × Nat} {a1 : Int32} :
  xrun k_X8_stairs 1 C Q [7, 31, 34, 37] K 2 37 [some (.ref 9), some (.int a1)] [] (xS I L z) b =
  Q (some (.int a1)) (xS I L z) := rfl
set_option maxRecDepth 100000 in
theorem b_X8_truth_0 {C : xC} {Q : xQ} {K : xK} {I : xI} {L : xL} {z : Bool × Bool × Nat} {b : Nat × Nat} {a1 : Int32} :
  xrun k_X8_truth 1 C Q [5, 15, 23, 37, 46, 55, 64] K 3 0 [some (.ref 9), some (.int a1), none, none] [] (xS I L z) b =
  C 179 [.ref 9, .int a1] (xS I L z) (fun r τ => K 5 [some (.ref 9), some (.int a1), none, none] (r.toList ++ []) τ b) := rfl
set_option maxRecDepth 100000 in
theorem b_X8_truth_5 {C : xC} {Q : xQ} {K : xK} {I : xI} {L : xL} {z : Bool × Bool × Nat} {b : Nat × Nat} {a1 : Int32} {s0 : Int32} :
  xrun k_X8_truth 1 C Q [5, 15, 23, 37, 46, 55, 64] K 6 5 [some (.ref 9), some (.int a1), none, none] [.int s0] (xS I L z) b =
  (if s0 = 0 then C 114 [.ref 37] (xS I L z) (fun r τ => K 23 [some (.ref 9), some (.int a1), some (.int s0), none] (r.toList ++ []) τ b) else C 177 [.ref 9, .int s0] (xS I L z) (fun r τ => K 15 [some (.ref 9), some (.int a1), some (.int s0), none] (r.toList ++ []) τ b)) := rfl
set_option maxRecDepth 100000 in
theorem b_X8_truth_15 {C : xC} {Q : xQ} {K : xK} {I : xI} {L : xL} {z : Bool × Bool × Nat} {b : Nat × Nat} {a1 : Int32} {a2 : Int32} {s0 : Int32} :
  xrun k_X8_truth 1 C Q [5, 15, 23, 37, 46, 55, 64] K 1 15 [some (.ref 9), some (.int a1), some (.int a2), none] [.int s0] (xS I L z) b =
  Q (some (.int s0)) (xS I L z) := rfl
set_option maxRecDepth 100000 in
theorem b_X8_truth_23 {C : xC} {Q : xQ} {K : xK} {I : xI} {L : xL} {z : Bool × Bool × Nat} {b : Nat × Nat} {a1 : Int32} {a2 : Int32} :
  xrun k_X8_truth 1 C Q [5, 15, 23, 37, 46, 55, 64] K 6 23 [some (.ref 9), some (.int a1), some (.int a2), none] [] (xS I L z) b =
  C 113 [.ref 64, .int (I 10 0)] (xS I L z) (fun r τ => K 37 [some (.ref 9), some (.int a1), some (.int a2), none] (r.toList ++ []) τ b) := rfl
set_option maxRecDepth 100000 in
theorem b_X8_truth_37 {C : xC} {Q : xQ} {K : xK} {I : xI} {L : xL} {z : Bool × Bool × Nat} {b : Nat × Nat} {a1 : Int32} {a2 : Int32} {s0 : Int32} :
  xrun k_X8_truth 1 C Q [5, 15, 23, 37, 46, 55, 64] K 5 37 [some (.ref 9), some (.int a1), some (.int a2), none] [.int s0] (xS I L z) b =
  C 124 [.ref 37, .int s0] (xS I L z) (fun r τ => K 46 [some (.ref 9), some (.int a1), some (.int a2), some (.int s0)] (r.toList ++ []) τ b) := rfl
set_option maxRecDepth 100000 in
theorem b_X8_truth_46 {C : xC} {Q : xQ} {K : xK} {I : xI} {L : xL} {z : Bool × Bool × Nat} {b : Nat × Nat} {a1 : Int32} {a2 : Int32} {a3 : Int32} {s0 : Int32} :
  xrun k_X8_truth 1 C Q [5, 15, 23, 37, 46, 55, 64] K 5 46 [some (.ref 9), some (.int a1), some (.int a2), some (.int a3)] [.int s0] (xS I L z) b =
  (if s0 = 0 then C 177 [.ref 9, .int (-5 : Int32)] (xS I L z) (fun r τ => K 55 [some (.ref 9), some (.int a1), some (.int a2), some (.int a3)] (r.toList ++ []) τ b) else C 90 [.ref 10, .int a3] (xS I L z) (fun r τ => K 64 [some (.ref 9), some (.int a1), some (.int a2), some (.int a3)] (r.toList ++ []) τ b)) := rfl
set_option maxRecDepth 100000 in
theorem b_X8_truth_55 {C : xC} {Q : xQ} {K : xK} {I : xI} {L : xL} {z : Bool × Bool × Nat} {b : Nat × Nat} {a1 : Int32} {a2 : Int32} {a3 : Int32} {s0 : Int32} :
  xrun k_X8_truth 1 C Q [5, 15, 23, 37, 46, 55, 64] K 1 55 [some (.ref 9), some (.int a1), some (.int a2), some (.int a3)] [.int s0] (xS I L z) b =
  Q (some (.int s0)) (xS I L z) := rfl
set_option maxRecDepth 100000 in
theorem b_X8_truth_64 {C : xC} {Q : xQ} {K : xK} {I : xI} {L : xL} {z : Bool × Bool × Nat} {b : Nat × Nat} {a1 : Int32} {a2 : Int32} {a3 : Int32} :
  xrun k_X8_truth 1 C Q [5, 15, 23, 37, 46, 55, 64] K 2 64 [some (.ref 9), some (.int a1), some (.int a2), some (.int a3)] [] (xS I L z) b =
  Q (some (.int 1)) (xS I L z) := rfl
set_option maxRecDepth 100000 in
theorem b_X8_image_0 {C : xC} {Q : xQ} {K : xK} {I : xI} {L : xL} {z : Bool × Bool × Nat} {b : Nat × Nat}  :
  xrun k_X8_image 1 C Q [11] K 5 0 [some (.ref 9)] [] (xS I L z) b =
  C 81 [.ref 19, .ref 10] (xS I L z) (fun r τ => K 11 [some (.ref 9)] (r.toList ++ []) τ b) := rfl
set_option maxRecDepth 100000 in
theorem b_X8_image_11 {C : xC} {Q : xQ} {K : xK} {I : xI} {L : xL} {z : Bool × Bool × Nat} {b : Nat × Nat}  :
  xrun k_X8_image 1 C Q [11] K 5 11 [some (.ref 9)] [] (xS I L z) b =
  Q (some (.int 1)) (xS (xw I 9 11 1) L z) := rfl
set_option maxRecDepth 100000 in
theorem b_X8_back_0 {C : xC} {Q : xQ} {K : xK} {I : xI} {L : xL} {z : Bool × Bool × Nat} {b : Nat × Nat}  :
  xrun k_X8_back 1 C Q [13, 25, 39] K 8 0 [some (.ref 9)] [] (xS I L z) b =
  (if (I 9 11) = 0 then C 177 [.ref 9, .int (-5 : Int32)] (xS I L z) (fun r τ => K 13 [some (.ref 9)] (r.toList ++ []) τ b) else C 81 [.ref 10, .ref 19] (xS I L z) (fun r τ => K 25 [some (.ref 9)] (r.toList ++ []) τ b)) := rfl
set_option maxRecDepth 100000 in
theorem b_X8_back_13 {C : xC} {Q : xQ} {K : xK} {I : xI} {L : xL} {z : Bool × Bool × Nat} {b : Nat × Nat} {s0 : Int32} :
  xrun k_X8_back 1 C Q [13, 25, 39] K 1 13 [some (.ref 9)] [.int s0] (xS I L z) b =
  Q (some (.int s0)) (xS I L z) := rfl
set_option maxRecDepth 100000 in
theorem b_X8_back_25 {C : xC} {Q : xQ} {K : xK} {I : xI} {L : xL} {z : Bool × Bool × Nat} {b : Nat × Nat}  :
  xrun k_X8_back 1 C Q [13, 25, 39] K 6 25 [some (.ref 9)] [] (xS I L z) b =
  C 50 [.ref 57, .int (I 10 4)] (xS I L z) (fun r τ => K 39 [some (.ref 9)] (r.toList ++ []) τ b) := rfl
set_option maxRecDepth 100000 in
theorem b_X8_back_39 {C : xC} {Q : xQ} {K : xK} {I : xI} {L : xL} {z : Bool × Bool × Nat} {b : Nat × Nat}  :
  xrun k_X8_back 1 C Q [13, 25, 39] K 2 39 [some (.ref 9)] [] (xS I L z) b =
  Q (some (.int 1)) (xS I L z) := rfl
set_option maxRecDepth 100000 in
theorem b_X8_status_0 {C : xC} {Q : xQ} {K : xK} {I : xI} {L : xL} {z : Bool × Bool × Nat} {b : Nat × Nat} {a1 : Int32} :
  xrun k_X8_status 1 C Q [87, 111] K 16 0 [some (.ref 9), some (.int a1)] [] (xS I L z) b =
  (if a1 = 0 then Q (some (.int (I 10 0))) (xS I L z) else (if a1 = 1 then Q (some (.int (I 10 1))) (xS I L z) else (if a1 = 2 then Q (some (.int (I 10 4))) (xS I L z) else (if a1 = 3 then Q (some (.int (I 10 3))) (xS I L z) else (if a1 = 4 then C 103 [.ref 10] (xS I L z) (fun r τ => K 87 [some (.ref 9), some (.int a1)] (r.toList ++ []) τ b) else (if a1 = 5 then Q (some (.int (I 61 0))) (xS I L z) else (if a1 = 6 then Q (some (.int (I 10 2))) (xS I L z) else (if a1 = 7 then C 51 [.ref 57] (xS I L z) (fun r τ => K 111 [some (.ref 9), some (.int a1)] (r.toList ++ []) τ b) else (if a1 < 12 then Q (some (.int (-1 : Int32))) (xS I L z) else (if a1 < 17 then (if xin (a1 - 12) (5) then Q (some (.int (I 65 (Int32.toNatClampNeg (a1 - 12))))) (xS I L z) else False) else Q (some (.int (-1 : Int32))) (xS I L z))))))))))) := rfl
set_option maxRecDepth 100000 in
theorem b_X8_status_87 {C : xC} {Q : xQ} {K : xK} {I : xI} {L : xL} {z : Bool × Bool × Nat} {b : Nat × Nat} {a1 : Int32} {s0 : Int32} :
  xrun k_X8_status 1 C Q [87, 111] K 1 87 [some (.ref 9), some (.int a1)] [.int s0] (xS I L z) b =
  Q (some (.int s0)) (xS I L z) := rfl
set_option maxRecDepth 100000 in
theorem b_X8_status_111 {C : xC} {Q : xQ} {K : xK} {I : xI} {L : xL} {z : Bool × Bool × Nat} {b : Nat × Nat} {a1 : Int32} {s0 : Int32} :
  xrun k_X8_status 1 C Q [87, 111] K 1 111 [some (.ref 9), some (.int a1)] [.int s0] (xS I L z) b =
  Q (some (.int s0)) (xS I L z) := rfl
set_option maxRecDepth 100000 in
theorem b_X8_faultOfTold_0 {C : xC} {Q : xQ} {K : xK} {I : xI} {L : xL} {z : Bool × Bool × Nat} {b : Nat × Nat} {a1 : Int32} :
  xrun k_X8_faultOfTold 1 C Q [8, 31, 39, 57] K 4 0 [some (.ref 9), some (.int a1), none, none, none, none] [] (xS I L z) b =
  C 40 [.ref 57, .int a1] (xS I L z) (fun r τ => K 8 [some (.ref 9), some (.int a1), none, none, none, none] (r.toList ++ []) τ b) := rfl
set_option maxRecDepth 100000 in
theorem b_X8_faultOfTold_8 {C : xC} {Q : xQ} {K : xK} {I : xI} {L : xL} {z : Bool × Bool × Nat} {b : Nat × Nat} {a1 : Int32} {s0 : Int32} :
  xrun k_X8_faultOfTold 1 C Q [8, 31, 39, 57] K 11 8 [some (.ref 9), some (.int a1), none, none, none, none] [.int s0] (xS I L z) b =
  (if s0 = 0 then C 43 [.ref 57, .int a1, .int 0, .int (I 10 0)] (xS I L z) (fun r τ => K 31 [some (.ref 9), some (.int a1), some (.int s0), none, none, none] (r.toList ++ []) τ b) else Q (some (.int s0)) (xS I L z)) := rfl
set_option maxRecDepth 100000 in
theorem b_X8_faultOfTold_31 {C : xC} {Q : xQ} {K : xK} {I : xI} {L : xL} {z : Bool × Bool × Nat} {b : Nat × Nat} {a1 : Int32} {a2 : Int32} {s0 : Int32} :
  xrun k_X8_faultOfTold 1 C Q [8, 31, 39, 57] K 3 31 [some (.ref 9), some (.int a1), some (.int a2), none, none, none] [.int s0] (xS I L z) b =
  (if s0 = 0 then Q (some (.int (-2 : Int32))) (xS I L z) else K 39 [some (.ref 9), some (.int a1), some (.int a2), some (.int 0), none, none] [] (xS I L z) b) := rfl
set_option maxRecDepth 100000 in
theorem b_X8_faultOfTold_39 {C : xC} {Q : xQ} {K : xK} {I : xI} {L : xL} {z : Bool × Bool × Nat} {b : Nat × Nat} {a1 : Int32} {a2 : Int32} {a3 : Int32} :
  xrun k_X8_faultOfTold 1 C Q [8, 31, 39, 57] K 10 39 [some (.ref 9), some (.int a1), some (.int a2), some (.int a3), none, none] [] (xS I L z) b =
  (if a3 < 6 then C 48 [.ref 57, .int a1, .int a3] (xS I L z) (fun r τ => K 57 [some (.ref 9), some (.int a1), some (.int a2), some (.int a3), none, none] (r.toList ++ []) τ b) else Q (some (.int 0)) (xS I L z)) := rfl
set_option maxRecDepth 100000 in
theorem b_X8_faultOfTold_57 {C : xC} {Q : xQ} {K : xK} {I : xI} {L : xL} {z : Bool × Bool × Nat} {b : Nat × Nat} {a1 : Int32} {a2 : Int32} {a3 : Int32} {s0 : Int64} :
  xrun k_X8_faultOfTold 1 C Q [8, 31, 39, 57] K 18 57 [some (.ref 9), some (.int a1), some (.int a2), some (.int a3), none, none] [.long s0] (xS I L z) b =
  (if (if s0 < (Int64.ofNat 0) then -1 else if s0 = (Int64.ofNat 0) then 0 else 1 : Int32) < 0 then (if xin a3 (6) then K 39 [some (.ref 9), some (.int a1), some (.int a2), some (.int (a3 + 1)), some (.long s0), none] [] (xS (xw I 64 (Int32.toNatClampNeg a3) (-1 : Int32)) L z) b else False) else (if (if s0 < (Int64.ofNat 6) then -1 else if s0 = (Int64.ofNat 6) then 0 else 1 : Int32) < 0 then (if xin a3 (6) then K 39 [some (.ref 9), some (.int a1), some (.int a2), some (.int (a3 + 1)), some (.long s0), none] [] (xS (xw I 64 (Int32.toNatClampNeg a3) (Int64.toInt32 s0)) L z) b else False) else (if xin a3 (6) then K 39 [some (.ref 9), some (.int a1), some (.int a2), some (.int (a3 + 1)), some (.long s0), none] [] (xS (xw I 64 (Int32.toNatClampNeg a3) (-1 : Int32)) L z) b else False))) := rfl
set_option maxRecDepth 100000 in
theorem b_X8_faultOfSorts_0 {C : xC} {Q : xQ} {K : xK} {I : xI} {L : xL} {z : Bool × Bool × Nat} {b : Nat × Nat} {a1 : Int32} :
  xrun k_X8_faultOfSorts 1 C Q [5, 8, 41] K 3 0 [some (.ref 9), some (.int a1), none, none] [] (xS I L z) b =
  C 178 [.ref 9, .int a1] (xS I L z) (fun r τ => K 5 [some (.ref 9), some (.int a1), none, none] (r.toList ++ []) τ b) := rfl
set_option maxRecDepth 100000 in
theorem b_X8_faultOfSorts_5 {C : xC} {Q : xQ} {K : xK} {I : xI} {L : xL} {z : Bool × Bool × Nat} {b : Nat × Nat} {a1 : Int32} {s0 : Int32} :
  xrun k_X8_faultOfSorts 1 C Q [5, 8, 41] K 3 5 [some (.ref 9), some (.int a1), none, none] [.int s0] (xS I L z) b =
  K 8 [some (.ref 9), some (.int a1), some (.int s0), some (.int 0)] [] (xS I L z) b := rfl
set_option maxRecDepth 100000 in
theorem b_X8_faultOfSorts_8 {C : xC} {Q : xQ} {K : xK} {I : xI} {L : xL} {z : Bool × Bool × Nat} {b : Nat × Nat} {a1 : Int32} {a2 : Int32} {a3 : Int32} :
  xrun k_X8_faultOfSorts 1 C Q [5, 8, 41] K 17 8 [some (.ref 9), some (.int a1), some (.int a2), some (.int a3)] [] (xS I L z) b =
  (if a3 < 6 then (if a3 < (I 10 0) then (if a2 = 0 then (if xin a3 (6) then C 180 [.int (I 64 (Int32.toNatClampNeg a3))] (xS I L z) (fun r τ => K 41 [some (.ref 9), some (.int a1), some (.int a2), some (.int a3)] (r.toList ++ []) τ b) else False) else Q (some (.int a2)) (xS I L z)) else Q (some (.int a2)) (xS I L z)) else Q (some (.int a2)) (xS I L z)) := rfl
set_option maxRecDepth 100000 in
theorem b_X8_faultOfSorts_41 {C : xC} {Q : xQ} {K : xK} {I : xI} {L : xL} {z : Bool × Bool × Nat} {b : Nat × Nat} {a1 : Int32} {a2 : Int32} {a3 : Int32} {s0 : Int32} :
  xrun k_X8_faultOfSorts 1 C Q [5, 8, 41] K 5 41 [some (.ref 9), some (.int a1), some (.int a2), some (.int a3)] [.int s0] (xS I L z) b =
  (if s0 = 0 then K 8 [some (.ref 9), some (.int a1), some (.int (-2 : Int32)), some (.int (a3 + 1))] [] (xS I L z) b else K 8 [some (.ref 9), some (.int a1), some (.int a2), some (.int (a3 + 1))] [] (xS I L z) b) := rfl
set_option maxRecDepth 100000 in
theorem b_X9_bits_0 {C : xC} {Q : xQ} {K : xK} {I : xI} {L : xL} {z : Bool × Bool × Nat} {b : Nat × Nat} {a0 : Int32} :
  xrun k_X9_bits 1 C Q [4] K 4 0 [some (.int a0), none, none] [] (xS I L z) b =
  K 4 [some (.int a0), some (.int 0), some (.int a0)] [] (xS I L z) b := rfl
set_option maxRecDepth 100000 in
theorem b_X9_bits_4 {C : xC} {Q : xQ} {K : xK} {I : xI} {L : xL} {z : Bool × Bool × Nat} {b : Nat × Nat} {a0 : Int32} {a1 : Int32} {a2 : Int32} :
  xrun k_X9_bits 1 C Q [4] K 10 4 [some (.int a0), some (.int a1), some (.int a2)] [] (xS I L z) b =
  (if a2 = 0 then Q (some (.int a1)) (xS I L z) else K 4 [some (.int a0), some (.int (a1 + 1)), some (.int (a2 &&& (a2 - 1)))] [] (xS I L z) b) := rfl
set_option maxRecDepth 100000 in
theorem b_X9_row_0 {C : xC} {Q : xQ} {K : xK} {I : xI} {L : xL} {z : Bool × Bool × Nat} {b : Nat × Nat} {a1 : Int32} {a2 : Int32} {a3 : Int32} :
  xrun k_X9_row 1 C Q [9, 21, 33, 42, 67] K 5 0 [some (.ref 66), some (.int a1), some (.int a2), some (.int a3), none] [] (xS I L z) b =
  C 188 [.long (Int32.toInt64 a1), .long (Int64.ofNat 0), .long (Int64.ofNat 7)] (xS I L z) (fun r τ => K 9 [some (.ref 66), some (.int a1), some (.int a2), some (.int a3), none] (r.toList ++ []) τ b) := rfl
set_option maxRecDepth 100000 in
theorem b_X9_row_9 {C : xC} {Q : xQ} {K : xK} {I : xI} {L : xL} {z : Bool × Bool × Nat} {b : Nat × Nat} {a1 : Int32} {a2 : Int32} {a3 : Int32} {s0 : Int32} :
  xrun k_X9_row 1 C Q [9, 21, 33, 42, 67] K 6 9 [some (.ref 66), some (.int a1), some (.int a2), some (.int a3), none] [.int s0] (xS I L z) b =
  (if s0 = 0 then C 187 [.ref 66, .int (-2 : Int32)] (xS I L z) (fun r τ => K 42 [some (.ref 66), some (.int a1), some (.int a2), some (.int a3), none] (r.toList ++ []) τ b) else C 188 [.long (Int32.toInt64 a2), .long (Int64.ofNat 0), .long (Int64.ofNat 4)] (xS I L z) (fun r τ => K 21 [some (.ref 66), some (.int a1), some (.int a2), some (.int a3), none] (r.toList ++ []) τ b)) := rfl
set_option maxRecDepth 100000 in
theorem b_X9_row_21 {C : xC} {Q : xQ} {K : xK} {I : xI} {L : xL} {z : Bool × Bool × Nat} {b : Nat × Nat} {a1 : Int32} {a2 : Int32} {a3 : Int32} {s0 : Int32} :
  xrun k_X9_row 1 C Q [9, 21, 33, 42, 67] K 6 21 [some (.ref 66), some (.int a1), some (.int a2), some (.int a3), none] [.int s0] (xS I L z) b =
  (if s0 = 0 then C 187 [.ref 66, .int (-2 : Int32)] (xS I L z) (fun r τ => K 42 [some (.ref 66), some (.int a1), some (.int a2), some (.int a3), none] (r.toList ++ []) τ b) else C 188 [.long (Int32.toInt64 a3), .long (Int64.ofNat 0), .long (Int64.ofNat 40)] (xS I L z) (fun r τ => K 33 [some (.ref 66), some (.int a1), some (.int a2), some (.int a3), none] (r.toList ++ []) τ b)) := rfl
set_option maxRecDepth 100000 in
theorem b_X9_row_42 {C : xC} {Q : xQ} {K : xK} {I : xI} {L : xL} {z : Bool × Bool × Nat} {b : Nat × Nat} {a1 : Int32} {a2 : Int32} {a3 : Int32} {s0 : Int32} :
  xrun k_X9_row 1 C Q [9, 21, 33, 42, 67] K 1 42 [some (.ref 66), some (.int a1), some (.int a2), some (.int a3), none] [.int s0] (xS I L z) b =
  Q (some (.int s0)) (xS I L z) := rfl
set_option maxRecDepth 100000 in
theorem b_X9_row_33 {C : xC} {Q : xQ} {K : xK} {I : xI} {L : xL} {z : Bool × Bool × Nat} {b : Nat × Nat} {a1 : Int32} {a2 : Int32} {a3 : Int32} {s0 : Int32} :
  xrun k_X9_row 1 C Q [9, 21, 33, 42, 67] K 18 33 [some (.ref 66), some (.int a1), some (.int a2), some (.int a3), none] [.int s0] (xS I L z) b =
  (if s0 = 0 then C 187 [.ref 66, .int (-2 : Int32)] (xS I L z) (fun r τ => K 42 [some (.ref 66), some (.int a1), some (.int a2), some (.int a3), none] (r.toList ++ []) τ b) else (if xin a1 (8) then (if xin a1 (8) then (if xin a1 (8) then K 67 [some (.ref 66), some (.int a1), some (.int a2), some (.int a3), some (.int 0)] [] (xS (xw (xw (xw I 67 (Int32.toNatClampNeg a1) 1) 68 (Int32.toNatClampNeg a1) a2) 69 (Int32.toNatClampNeg a1) a3) L z) b else False) else False) else False)) := rfl
set_option maxRecDepth 100000 in
theorem b_X9_row_67 {C : xC} {Q : xQ} {K : xK} {I : xI} {L : xL} {z : Bool × Bool × Nat} {b : Nat × Nat} {a1 : Int32} {a2 : Int32} {a3 : Int32} {a4 : Int32} :
  xrun k_X9_row 1 C Q [9, 21, 33, 42, 67] K 12 67 [some (.ref 66), some (.int a1), some (.int a2), some (.int a3), some (.int a4)] [] (xS I L z) b =
  (if a4 < 40 then (if xin a1 (8) then (bif xis (xS I L z) (70 + 1 + Int32.toNatClampNeg a1) 21 && Nat.blt 8 (70 + 1 + Int32.toNatClampNeg a1) then (if xin a4 (xlen z.2.2 (70 + 1 + Int32.toNatClampNeg a1)) then K 67 [some (.ref 66), some (.int a1), some (.int a2), some (.int a3), some (.int (a4 + 1))] [] (xS I (xwl L (70 + 1 + Int32.toNatClampNeg a1) (Int32.toNatClampNeg a4) (Int64.ofNat 0)) z) b else False) else False) else False) else Q (some (.int 1)) (xS I L z)) := rfl
set_option maxRecDepth 100000 in
theorem b_X9_copy_0 {C : xC} {Q : xQ} {K : xK} {I : xI} {L : xL} {z : Bool × Bool × Nat} {b : Nat × Nat} {a1 : Int32} {a2 : Int32} {a3 : Int32} {a4 : Int32} {a5 : Int32} :
  xrun k_X9_copy 1 C Q [9, 21, 30, 92, 93, 117, 187, 191, 225] K 5 0 [some (.ref 66), some (.int a1), some (.int a2), some (.int a3), some (.int a4), some (.int a5), none] [] (xS I L z) b =
  C 188 [.long (Int32.toInt64 a1), .long (Int64.ofNat 0), .long (Int64.ofNat 7)] (xS I L z) (fun r τ => K 9 [some (.ref 66), some (.int a1), some (.int a2), some (.int a3), some (.int a4), some (.int a5), none] (r.toList ++ []) τ b) := rfl
set_option maxRecDepth 100000 in
theorem b_X9_copy_9 {C : xC} {Q : xQ} {K : xK} {I : xI} {L : xL} {z : Bool × Bool × Nat} {b : Nat × Nat} {a1 : Int32} {a2 : Int32} {a3 : Int32} {a4 : Int32} {a5 : Int32} {s0 : Int32} :
  xrun k_X9_copy 1 C Q [9, 21, 30, 92, 93, 117, 187, 191, 225] K 6 9 [some (.ref 66), some (.int a1), some (.int a2), some (.int a3), some (.int a4), some (.int a5), none] [.int s0] (xS I L z) b =
  (if s0 = 0 then C 187 [.ref 66, .int (-2 : Int32)] (xS I L z) (fun r τ => K 30 [some (.ref 66), some (.int a1), some (.int a2), some (.int a3), some (.int a4), some (.int a5), none] (r.toList ++ []) τ b) else C 188 [.long (Int32.toInt64 a2), .long (Int64.ofNat 0), .long (Int64.ofNat 7)] (xS I L z) (fun r τ => K 21 [some (.ref 66), some (.int a1), some (.int a2), some (.int a3), some (.int a4), some (.int a5), none] (r.toList ++ []) τ b)) := rfl
set_option maxRecDepth 100000 in
theorem b_X9_copy_21 {C : xC} {Q : xQ} {K : xK} {I : xI} {L : xL} {z : Bool × Bool × Nat} {b : Nat × Nat} {a1 : Int32} {a2 : Int32} {a3 : Int32} {a4 : Int32} {a5 : Int32} {s0 : Int32} :
  xrun k_X9_copy 1 C Q [9, 21, 30, 92, 93, 117, 187, 191, 225] K 37 21 [some (.ref 66), some (.int a1), some (.int a2), some (.int a3), some (.int a4), some (.int a5), none] [.int s0] (xS I L z) b =
  (if s0 = 0 then C 187 [.ref 66, .int (-2 : Int32)] (xS I L z) (fun r τ => K 30 [some (.ref 66), some (.int a1), some (.int a2), some (.int a3), some (.int a4), some (.int a5), none] (r.toList ++ []) τ b) else (if xin a1 (8) then (if (I 67 (Int32.toNatClampNeg a1)) = 2 then C 187 [.ref 66, .int (-3 : Int32)] (xS I L z) (fun r τ => K 92 [some (.ref 66), some (.int a1), some (.int a2), some (.int a3), some (.int a4), some (.int a5), none] (r.toList ++ []) τ b) else (if xin a2 (8) then (if (I 67 (Int32.toNatClampNeg a2)) = 2 then C 187 [.ref 66, .int (-3 : Int32)] (xS I L z) (fun r τ => K 92 [some (.ref 66), some (.int a1), some (.int a2), some (.int a3), some (.int a4), some (.int a5), none] (r.toList ++ []) τ b) else (if xin a1 (8) then (if (I 67 (Int32.toNatClampNeg a1)) = 1 then (if xin a2 (8) then (if (I 67 (Int32.toNatClampNeg a2)) = 1 then (if xin a1 (8) then (if xin a2 (8) then (if (I 68 (Int32.toNatClampNeg a1)) = (I 68 (Int32.toNatClampNeg a2)) then K 93 [some (.ref 66), some (.int a1), some (.int a2), some (.int a3), some (.int a4), some (.int a5), none] [] (xS I L z) b else C 187 [.ref 66, .int (-3 : Int32)] (xS I L z) (fun r τ => K 92 [some (.ref 66), some (.int a1), some (.int a2), some (.int a3), some (.int a4), some (.int a5), none] (r.toList ++ []) τ b)) else False) else False) else K 93 [some (.ref 66), some (.int a1), some (.int a2), some (.int a3), some (.int a4), some (.int a5), none] [] (xS I L z) b) else False) else K 93 [some (.ref 66), some (.int a1), some (.int a2), some (.int a3), some (.int a4), some (.int a5), none] [] (xS I L z) b) else False)) else False)) else False)) := rfl
set_option maxRecDepth 100000 in
theorem b_X9_copy_30 {C : xC} {Q : xQ} {K : xK} {I : xI} {L : xL} {z : Bool × Bool × Nat} {b : Nat × Nat} {a1 : Int32} {a2 : Int32} {a3 : Int32} {a4 : Int32} {a5 : Int32} {s0 : Int32} :
  xrun k_X9_copy 1 C Q [9, 21, 30, 92, 93, 117, 187, 191, 225] K 1 30 [some (.ref 66), some (.int a1), some (.int a2), some (.int a3), some (.int a4), some (.int a5), none] [.int s0] (xS I L z) b =
  Q (some (.int s0)) (xS I L z) := rfl
set_option maxRecDepth 100000 in
theorem b_X9_copy_92 {C : xC} {Q : xQ} {K : xK} {I : xI} {L : xL} {z : Bool × Bool × Nat} {b : Nat × Nat} {a1 : Int32} {a2 : Int32} {a3 : Int32} {a4 : Int32} {a5 : Int32} {s0 : Int32} :
  xrun k_X9_copy 1 C Q [9, 21, 30, 92, 93, 117, 187, 191, 225] K 1 92 [some (.ref 66), some (.int a1), some (.int a2), some (.int a3), some (.int a4), some (.int a5), none] [.int s0] (xS I L z) b =
  Q (some (.int s0)) (xS I L z) := rfl
set_option maxRecDepth 100000 in
theorem b_X9_copy_93 {C : xC} {Q : xQ} {K : xK} {I : xI} {L : xL} {z : Bool × Bool × Nat} {b : Nat × Nat} {a1 : Int32} {a2 : Int32} {a3 : Int32} {a4 : Int32} {a5 : Int32} :
  xrun k_X9_copy 1 C Q [9, 21, 30, 92, 93, 117, 187, 191, 225] K 47 93 [some (.ref 66), some (.int a1), some (.int a2), some (.int a3), some (.int a4), some (.int a5), none] [] (xS I L z) b =
  (if xin a1 (8) then (if (I 67 (Int32.toNatClampNeg a1)) = 0 then C 187 [.ref 66, .int (-4 : Int32)] (xS I L z) (fun r τ => K 117 [some (.ref 66), some (.int a1), some (.int a2), some (.int a3), some (.int a4), some (.int a5), none] (r.toList ++ []) τ b) else (if xin a2 (8) then (if (I 67 (Int32.toNatClampNeg a2)) = 0 then C 187 [.ref 66, .int (-4 : Int32)] (xS I L z) (fun r τ => K 117 [some (.ref 66), some (.int a1), some (.int a2), some (.int a3), some (.int a4), some (.int a5), none] (r.toList ++ []) τ b) else (if a5 < 0 then C 187 [.ref 66, .int (-2 : Int32)] (xS I L z) (fun r τ => K 187 [some (.ref 66), some (.int a1), some (.int a2), some (.int a3), some (.int a4), some (.int a5), none] (r.toList ++ []) τ b) else (if a3 < 0 then C 187 [.ref 66, .int (-2 : Int32)] (xS I L z) (fun r τ => K 187 [some (.ref 66), some (.int a1), some (.int a2), some (.int a3), some (.int a4), some (.int a5), none] (r.toList ++ []) τ b) else (if a4 < 0 then C 187 [.ref 66, .int (-2 : Int32)] (xS I L z) (fun r τ => K 187 [some (.ref 66), some (.int a1), some (.int a2), some (.int a3), some (.int a4), some (.int a5), none] (r.toList ++ []) τ b) else (if xin a1 (8) then (if (I 69 (Int32.toNatClampNeg a1)) < a5 then C 187 [.ref 66, .int (-2 : Int32)] (xS I L z) (fun r τ => K 187 [some (.ref 66), some (.int a1), some (.int a2), some (.int a3), some (.int a4), some (.int a5), none] (r.toList ++ []) τ b) else (if xin a2 (8) then (if (I 69 (Int32.toNatClampNeg a2)) < a5 then C 187 [.ref 66, .int (-2 : Int32)] (xS I L z) (fun r τ => K 187 [some (.ref 66), some (.int a1), some (.int a2), some (.int a3), some (.int a4), some (.int a5), none] (r.toList ++ []) τ b) else (if xin a1 (8) then (if ((I 69 (Int32.toNatClampNeg a1)) - a5) < a3 then C 187 [.ref 66, .int (-2 : Int32)] (xS I L z) (fun r τ => K 187 [some (.ref 66), some (.int a1), some (.int a2), some (.int a3), some (.int a4), some (.int a5), none] (r.toList ++ []) τ b) else (if xin a2 (8) then (if ((I 69 (Int32.toNatClampNeg a2)) - a5) < a4 then C 187 [.ref 66, .int (-2 : Int32)] (xS I L z) (fun r τ => K 187 [some (.ref 66), some (.int a1), some (.int a2), some (.int a3), some (.int a4), some (.int a5), none] (r.toList ++ []) τ b) else K 191 [some (.ref 66), some (.int a1), some (.int a2), some (.int a3), some (.int a4), some (.int a5), some (.int 0)] [] (xS I L z) b) else False)) else False)) else False)) else False))))) else False)) else False) := rfl
set_option maxRecDepth 100000 in
theorem b_X9_copy_117 {C : xC} {Q : xQ} {K : xK} {I : xI} {L : xL} {z : Bool × Bool × Nat} {b : Nat × Nat} {a1 : Int32} {a2 : Int32} {a3 : Int32} {a4 : Int32} {a5 : Int32} {s0 : Int32} :
  xrun k_X9_copy 1 C Q [9, 21, 30, 92, 93, 117, 187, 191, 225] K 1 117 [some (.ref 66), some (.int a1), some (.int a2), some (.int a3), some (.int a4), some (.int a5), none] [.int s0] (xS I L z) b =
  Q (some (.int s0)) (xS I L z) := rfl
set_option maxRecDepth 100000 in
theorem b_X9_copy_187 {C : xC} {Q : xQ} {K : xK} {I : xI} {L : xL} {z : Bool × Bool × Nat} {b : Nat × Nat} {a1 : Int32} {a2 : Int32} {a3 : Int32} {a4 : Int32} {a5 : Int32} {s0 : Int32} :
  xrun k_X9_copy 1 C Q [9, 21, 30, 92, 93, 117, 187, 191, 225] K 1 187 [some (.ref 66), some (.int a1), some (.int a2), some (.int a3), some (.int a4), some (.int a5), none] [.int s0] (xS I L z) b =
  Q (some (.int s0)) (xS I L z) := rfl
set_option maxRecDepth 100000 in
theorem b_X9_copy_191 {C : xC} {Q : xQ} {K : xK} {I : xI} {L : xL} {z : Bool × Bool × Nat} {b : Nat × Nat} {a1 : Int32} {a2 : Int32} {a3 : Int32} {a4 : Int32} {a5 : Int32} {a6 : Int32} :
  xrun k_X9_copy 1 C Q [9, 21, 30, 92, 93, 117, 187, 191, 225] K 17 191 [some (.ref 66), some (.int a1), some (.int a2), some (.int a3), some (.int a4), some (.int a5), some (.int a6)] [] (xS I L z) b =
  (if a6 < a5 then (if xin a1 (8) then (bif xis (xS I L z) (70 + 1 + Int32.toNatClampNeg a1) 21 then (if xin (a3 + a6) (xlen z.2.2 (70 + 1 + Int32.toNatClampNeg a1)) then (if xin a6 (40) then K 191 [some (.ref 66), some (.int a1), some (.int a2), some (.int a3), some (.int a4), some (.int a5), some (.int (a6 + 1))] [] (xS I (xwl L 79 (Int32.toNatClampNeg a6) (L (70 + 1 + Int32.toNatClampNeg a1) (Int32.toNatClampNeg (a3 + a6)))) z) b else False) else False) else False) else False) else K 225 [some (.ref 66), some (.int a1), some (.int a2), some (.int a3), some (.int a4), some (.int a5), some (.int 0)] [] (xS I L z) b) := rfl
set_option maxRecDepth 100000 in
theorem b_X9_copy_225 {C : xC} {Q : xQ} {K : xK} {I : xI} {L : xL} {z : Bool × Bool × Nat} {b : Nat × Nat} {a1 : Int32} {a2 : Int32} {a3 : Int32} {a4 : Int32} {a5 : Int32} {a6 : Int32} :
  xrun k_X9_copy 1 C Q [9, 21, 30, 92, 93, 117, 187, 191, 225] K 17 225 [some (.ref 66), some (.int a1), some (.int a2), some (.int a3), some (.int a4), some (.int a5), some (.int a6)] [] (xS I L z) b =
  (if a6 < a5 then (if xin a2 (8) then (if xin a6 (40) then (bif xis (xS I L z) (70 + 1 + Int32.toNatClampNeg a2) 21 && Nat.blt 8 (70 + 1 + Int32.toNatClampNeg a2) then (if xin (a4 + a6) (xlen z.2.2 (70 + 1 + Int32.toNatClampNeg a2)) then K 225 [some (.ref 66), some (.int a1), some (.int a2), some (.int a3), some (.int a4), some (.int a5), some (.int (a6 + 1))] [] (xS I (xwl L (70 + 1 + Int32.toNatClampNeg a2) (Int32.toNatClampNeg (a4 + a6)) (L 79 (Int32.toNatClampNeg a6))) z) b else False) else False) else False) else False) else Q (some (.int a5)) (xS I L z)) := rfl
set_option maxRecDepth 100000 in
theorem b_X9_says_0 {C : xC} {Q : xQ} {K : xK} {I : xI} {L : xL} {z : Bool × Bool × Nat} {b : Nat × Nat} {a1 : Int32} {a2 : Int32} :
  xrun k_X9_says 1 C Q [9, 21, 30, 66, 75, 76, 91, 120] K 5 0 [some (.ref 66), some (.int a1), some (.int a2)] [] (xS I L z) b =
  C 188 [.long (Int32.toInt64 a1), .long (Int64.ofNat 0), .long (Int64.ofNat 7)] (xS I L z) (fun r τ => K 9 [some (.ref 66), some (.int a1), some (.int a2)] (r.toList ++ []) τ b) := rfl
set_option maxRecDepth 100000 in
theorem b_X9_says_9 {C : xC} {Q : xQ} {K : xK} {I : xI} {L : xL} {z : Bool × Bool × Nat} {b : Nat × Nat} {a1 : Int32} {a2 : Int32} {s0 : Int32} :
  xrun k_X9_says 1 C Q [9, 21, 30, 66, 75, 76, 91, 120] K 6 9 [some (.ref 66), some (.int a1), some (.int a2)] [.int s0] (xS I L z) b =
  (if s0 = 0 then C 187 [.ref 66, .int (-2 : Int32)] (xS I L z) (fun r τ => K 30 [some (.ref 66), some (.int a1), some (.int a2)] (r.toList ++ []) τ b) else C 188 [.long (Int32.toInt64 a2), .long (Int64.ofNat 0), .long (Int64.ofNat 5)] (xS I L z) (fun r τ => K 21 [some (.ref 66), some (.int a1), some (.int a2)] (r.toList ++ []) τ b)) := rfl
set_option maxRecDepth 100000 in
theorem b_X9_says_21 {C : xC} {Q : xQ} {K : xK} {I : xI} {L : xL} {z : Bool × Bool × Nat} {b : Nat × Nat} {a1 : Int32} {a2 : Int32} {s0 : Int32} :
  xrun k_X9_says 1 C Q [9, 21, 30, 66, 75, 76, 91, 120] K 22 21 [some (.ref 66), some (.int a1), some (.int a2)] [.int s0] (xS I L z) b =
  (if s0 = 0 then C 187 [.ref 66, .int (-2 : Int32)] (xS I L z) (fun r τ => K 30 [some (.ref 66), some (.int a1), some (.int a2)] (r.toList ++ []) τ b) else (if xin a1 (8) then (if (I 67 (Int32.toNatClampNeg a1)) = 1 then C 187 [.ref 66, .int (-3 : Int32)] (xS I L z) (fun r τ => K 75 [some (.ref 66), some (.int a1), some (.int a2)] (r.toList ++ []) τ b) else (if xin a1 (8) then (if (I 67 (Int32.toNatClampNeg a1)) = 2 then (if xin a1 (8) then (if xin (I 80 (Int32.toNatClampNeg a1)) (4) then C 201 [.int (I 101 (Int32.toNatClampNeg (I 80 (Int32.toNatClampNeg a1)))), .int a2] (xS I L z) (fun r τ => K 66 [some (.ref 66), some (.int a1), some (.int a2)] (r.toList ++ []) τ b) else False) else False) else K 76 [some (.ref 66), some (.int a1), some (.int a2)] [] (xS I L z) b) else False)) else False)) := rfl
set_option maxRecDepth 100000 in
theorem b_X9_says_30 {C : xC} {Q : xQ} {K : xK} {I : xI} {L : xL} {z : Bool × Bool × Nat} {b : Nat × Nat} {a1 : Int32} {a2 : Int32} {s0 : Int32} :
  xrun k_X9_says 1 C Q [9, 21, 30, 66, 75, 76, 91, 120] K 1 30 [some (.ref 66), some (.int a1), some (.int a2)] [.int s0] (xS I L z) b =
  Q (some (.int s0)) (xS I L z) := rfl
set_option maxRecDepth 100000 in
theorem b_X9_says_66 {C : xC} {Q : xQ} {K : xK} {I : xI} {L : xL} {z : Bool × Bool × Nat} {b : Nat × Nat} {a1 : Int32} {a2 : Int32} {s0 : Int32} :
  xrun k_X9_says 1 C Q [9, 21, 30, 66, 75, 76, 91, 120] K 4 66 [some (.ref 66), some (.int a1), some (.int a2)] [.int s0] (xS I L z) b =
  (if s0 = 0 then C 187 [.ref 66, .int (-3 : Int32)] (xS I L z) (fun r τ => K 75 [some (.ref 66), some (.int a1), some (.int a2)] (r.toList ++ []) τ b) else K 76 [some (.ref 66), some (.int a1), some (.int a2)] [] (xS I L z) b) := rfl
set_option maxRecDepth 100000 in
theorem b_X9_says_75 {C : xC} {Q : xQ} {K : xK} {I : xI} {L : xL} {z : Bool × Bool × Nat} {b : Nat × Nat} {a1 : Int32} {a2 : Int32} {s0 : Int32} :
  xrun k_X9_says 1 C Q [9, 21, 30, 66, 75, 76, 91, 120] K 1 75 [some (.ref 66), some (.int a1), some (.int a2)] [.int s0] (xS I L z) b =
  Q (some (.int s0)) (xS I L z) := rfl
set_option maxRecDepth 100000 in
theorem b_X9_says_76 {C : xC} {Q : xQ} {K : xK} {I : xI} {L : xL} {z : Bool × Bool × Nat} {b : Nat × Nat} {a1 : Int32} {a2 : Int32} :
  xrun k_X9_says 1 C Q [9, 21, 30, 66, 75, 76, 91, 120] K 15 76 [some (.ref 66), some (.int a1), some (.int a2)] [] (xS I L z) b =
  (if xin a1 (8) then (if (I 67 (Int32.toNatClampNeg a1)) = 0 then C 187 [.ref 66, .int (-4 : Int32)] (xS I L z) (fun r τ => K 91 [some (.ref 66), some (.int a1), some (.int a2)] (r.toList ++ []) τ b) else (if a2 = 0 then (if xin a1 (8) then (if xin (I 80 (Int32.toNatClampNeg a1)) (4) then K 120 [some (.ref 66), some (.int a1), some (.int a2)] [.int (I 102 (Int32.toNatClampNeg (I 80 (Int32.toNatClampNeg a1))))] (xS I L z) b else False) else False) else (if xin a1 (8) then C 282 [.ref 66, .int (I 80 (Int32.toNatClampNeg a1))] (xS I L z) (fun r τ => K 120 [some (.ref 66), some (.int a1), some (.int a2)] (r.toList ++ []) τ b) else False))) else False) := rfl
set_option maxRecDepth 100000 in
theorem b_X9_says_91 {C : xC} {Q : xQ} {K : xK} {I : xI} {L : xL} {z : Bool × Bool × Nat} {b : Nat × Nat} {a1 : Int32} {a2 : Int32} {s0 : Int32} :
  xrun k_X9_says 1 C Q [9, 21, 30, 66, 75, 76, 91, 120] K 1 91 [some (.ref 66), some (.int a1), some (.int a2)] [.int s0] (xS I L z) b =
  Q (some (.int s0)) (xS I L z) := rfl
set_option maxRecDepth 100000 in
theorem b_X9_says_120 {C : xC} {Q : xQ} {K : xK} {I : xI} {L : xL} {z : Bool × Bool × Nat} {b : Nat × Nat} {a1 : Int32} {a2 : Int32} {s0 : Int32} :
  xrun k_X9_says 1 C Q [9, 21, 30, 66, 75, 76, 91, 120] K 1 120 [some (.ref 66), some (.int a1), some (.int a2)] [.int s0] (xS I L z) b =
  Q (some (.int s0)) (xS I L z) := rfl
set_option maxRecDepth 100000 in
theorem b_X9_forgets_0 {C : xC} {Q : xQ} {K : xK} {I : xI} {L : xL} {z : Bool × Bool × Nat} {b : Nat × Nat}  :
  xrun k_X9_forgets 0 C Q [2, 10] K 2 0 [some (.ref 66), none, none] [] (xS I L z) b =
  K 2 [some (.ref 66), some (.int 0), none] [] (xS I L z) b := rfl
set_option maxRecDepth 100000 in
theorem b_X9_forgets_2 {C : xC} {Q : xQ} {K : xK} {I : xI} {L : xL} {z : Bool × Bool × Nat} {b : Nat × Nat} {a1 : Int32} :
  xrun k_X9_forgets 0 C Q [2, 10] K 5 2 [some (.ref 66), some (.int a1), none] [] (xS I L z) b =
  (if a1 < 6 then K 10 [some (.ref 66), some (.int a1), some (.int 0)] [] (xS I L z) b else Q none (xS I L z)) := rfl
set_option maxRecDepth 100000 in
theorem b_X9_forgets_10 {C : xC} {Q : xQ} {K : xK} {I : xI} {L : xL} {z : Bool × Bool × Nat} {b : Nat × Nat} {a1 : Int32} {a2 : Int32} :
  xrun k_X9_forgets 0 C Q [2, 10] K 12 10 [some (.ref 66), some (.int a1), some (.int a2)] [] (xS I L z) b =
  (if a2 < 4 then (if xin a1 (6) then (bif xis (xS I L z) (94 + 1 + Int32.toNatClampNeg a1) 20 && Nat.blt 8 (94 + 1 + Int32.toNatClampNeg a1) then (if xin a2 (xlen z.2.2 (94 + 1 + Int32.toNatClampNeg a1)) then K 10 [some (.ref 66), some (.int a1), some (.int (a2 + 1))] [] (xS (xw I (94 + 1 + Int32.toNatClampNeg a1) (Int32.toNatClampNeg a2) (-1 : Int32)) L z) b else False) else False) else False) else K 2 [some (.ref 66), some (.int (a1 + 1)), some (.int a2)] [] (xS I L z) b) := rfl
set_option maxRecDepth 100000 in
theorem b_X9_signsMany_0 {C : xC} {Q : xQ} {K : xK} {I : xI} {L : xL} {z : Bool × Bool × Nat} {b : Nat × Nat}  :
  xrun k_X9_signsMany 1 C Q [4, 12] K 4 0 [some (.ref 66), none, none, none] [] (xS I L z) b =
  K 4 [some (.ref 66), some (.int 0), some (.int 0), none] [] (xS I L z) b := rfl
set_option maxRecDepth 100000 in
theorem b_X9_signsMany_4 {C : xC} {Q : xQ} {K : xK} {I : xI} {L : xL} {z : Bool × Bool × Nat} {b : Nat × Nat} {a1 : Int32} {a2 : Int32} :
  xrun k_X9_signsMany 1 C Q [4, 12] K 5 4 [some (.ref 66), some (.int a1), some (.int a2), none] [] (xS I L z) b =
  (if a2 < 6 then K 12 [some (.ref 66), some (.int a1), some (.int a2), some (.int 0)] [] (xS I L z) b else Q (some (.int a1)) (xS I L z)) := rfl
set_option maxRecDepth 100000 in
theorem b_X9_signsMany_12 {C : xC} {Q : xQ} {K : xK} {I : xI} {L : xL} {z : Bool × Bool × Nat} {b : Nat × Nat} {a1 : Int32} {a2 : Int32} {a3 : Int32} :
  xrun k_X9_signsMany 1 C Q [4, 12] K 18 12 [some (.ref 66), some (.int a1), some (.int a2), some (.int a3)] [] (xS I L z) b =
  (if a3 < 4 then (if xin a2 (6) then (bif xisi (xS I L z) (94 + 1 + Int32.toNatClampNeg a2) then (if xin a3 (xlen z.2.2 (94 + 1 + Int32.toNatClampNeg a2)) then (if (I (94 + 1 + Int32.toNatClampNeg a2) (Int32.toNatClampNeg a3)) = (-1 : Int32) then K 12 [some (.ref 66), some (.int (a1 + 0)), some (.int a2), some (.int (a3 + 1))] [] (xS I L z) b else K 12 [some (.ref 66), some (.int (a1 + 1)), some (.int a2), some (.int (a3 + 1))] [] (xS I L z) b) else False) else False) else False) else K 4 [some (.ref 66), some (.int a1), some (.int (a2 + 1)), some (.int a3)] [] (xS I L z) b) := rfl
set_option maxRecDepth 100000 in
theorem b_X9_becomeCups_0 {C : xC} {Q : xQ} {K : xK} {I : xI} {L : xL} {z : Bool × Bool × Nat} {b : Nat × Nat} {a1 : Int32} :
  xrun k_X9_becomeCups 0 C Q [7, 37] K 5 0 [some (.ref 66), some (.int a1), none] [] (xS I L z) b =
  K 7 [some (.ref 66), some (.int a1), some (.int 0)] [] (xS (xw I 66 9 a1) L z) b := rfl
set_option maxRecDepth 100000 in
theorem b_X9_becomeCups_7 {C : xC} {Q : xQ} {K : xK} {I : xI} {L : xL} {z : Bool × Bool × Nat} {b : Nat × Nat} {a1 : Int32} {a2 : Int32} :
  xrun k_X9_becomeCups 0 C Q [7, 37] K 15 7 [some (.ref 66), some (.int a1), some (.int a2)] [] (xS I L z) b =
  (if a2 < 6 then (if xin a2 (6) then (if xin a2 (6) then K 7 [some (.ref 66), some (.int a1), some (.int (a2 + 1))] [] (xS (xw (xw I 83 (Int32.toNatClampNeg a2) 0) 84 (Int32.toNatClampNeg a2) 0) L z) b else False) else False) else C 203 [.ref 66] (xS I L z) (fun r τ => K 37 [some (.ref 66), some (.int a1), some (.int a2)] (r.toList ++ []) τ b)) := rfl
set_option maxRecDepth 100000 in
theorem b_X9_becomeCups_37 {C : xC} {Q : xQ} {K : xK} {I : xI} {L : xL} {z : Bool × Bool × Nat} {b : Nat × Nat} {a1 : Int32} {a2 : Int32} :
  xrun k_X9_becomeCups 0 C Q [7, 37] K 1 37 [some (.ref 66), some (.int a1), some (.int a2)] [] (xS I L z) b =
  Q none (xS I L z) := rfl
set_option maxRecDepth 100000 in
theorem b_X9_cups_0 {C : xC} {Q : xQ} {K : xK} {I : xI} {L : xL} {z : Bool × Bool × Nat} {b : Nat × Nat} {a1 : Int32} :
  xrun k_X9_cups 1 C Q [11, 20, 31] K 5 0 [some (.ref 66), some (.int a1), none] [] (xS I L z) b =
  C 188 [.long (Int32.toInt64 a1), .long (Int64.ofNat 2), .long (Int64.ofNat 6)] (xS I L z) (fun r τ => K 11 [some (.ref 66), some (.int a1), none] (r.toList ++ []) τ b) := rfl
set_option maxRecDepth 100000 in
theorem b_X9_cups_11 {C : xC} {Q : xQ} {K : xK} {I : xI} {L : xL} {z : Bool × Bool × Nat} {b : Nat × Nat} {a1 : Int32} {s0 : Int32} :
  xrun k_X9_cups 1 C Q [11, 20, 31] K 7 11 [some (.ref 66), some (.int a1), none] [.int s0] (xS I L z) b =
  (if s0 = 0 then C 187 [.ref 66, .int (-2 : Int32)] (xS I L z) (fun r τ => K 20 [some (.ref 66), some (.int a1), none] (r.toList ++ []) τ b) else C 205 [.ref 66, .int a1] (xS I L z) (fun r τ => K 31 [some (.ref 66), some (.int a1), some (.int (I 66 9))] (r.toList ++ []) τ b)) := rfl
set_option maxRecDepth 100000 in
theorem b_X9_cups_20 {C : xC} {Q : xQ} {K : xK} {I : xI} {L : xL} {z : Bool × Bool × Nat} {b : Nat × Nat} {a1 : Int32} {s0 : Int32} :
  xrun k_X9_cups 1 C Q [11, 20, 31] K 1 20 [some (.ref 66), some (.int a1), none] [.int s0] (xS I L z) b =
  Q (some (.int s0)) (xS I L z) := rfl
set_option maxRecDepth 100000 in
theorem b_X9_cups_31 {C : xC} {Q : xQ} {K : xK} {I : xI} {L : xL} {z : Bool × Bool × Nat} {b : Nat × Nat} {a1 : Int32} {a2 : Int32} :
  xrun k_X9_cups 1 C Q [11, 20, 31] K 2 31 [some (.ref 66), some (.int a1), some (.int a2)] [] (xS I L z) b =
  Q (some (.int a2)) (xS I L z) := rfl
set_option maxRecDepth 100000 in
theorem b_X9_areSorts_0 {C : xC} {Q : xQ} {K : xK} {I : xI} {L : xL} {z : Bool × Bool × Nat} {b : Nat × Nat} {a1 : Nat} :
  xrun k_X9_areSorts 2 C Q [2, 20] K 2 0 [some (.ref 66), some (.ref a1), none] [] (xS I L z) b =
  K 2 [some (.ref 66), some (.ref a1), some (.int 0)] [] (xS I L z) b := rfl
set_option maxRecDepth 100000 in
theorem b_X9_areSorts_2 {C : xC} {Q : xQ} {K : xK} {I : xI} {L : xL} {z : Bool × Bool × Nat} {b : Nat × Nat} {a1 : Nat} {a2 : Int32} :
  xrun k_X9_areSorts 2 C Q [2, 20] K 10 2 [some (.ref 66), some (.ref a1), some (.int a2)] [] (xS I L z) b =
  (if a2 < (I 66 9) then (bif xis (xS I L z) a1 21 then (if xin a2 (xlen z.2.2 (a1)) then C 188 [.long (L a1 (Int32.toNatClampNeg a2)), .long (Int64.ofNat 0), .long (Int64.ofNat 5)] (xS I L z) (fun r τ => K 20 [some (.ref 66), some (.ref a1), some (.int a2)] (r.toList ++ []) τ b) else False) else False) else Q (some (.int 1)) (xS I L z)) := rfl
set_option maxRecDepth 100000 in
theorem b_X9_areSorts_20 {C : xC} {Q : xQ} {K : xK} {I : xI} {L : xL} {z : Bool × Bool × Nat} {b : Nat × Nat} {a1 : Nat} {a2 : Int32} {s0 : Int32} :
  xrun k_X9_areSorts 2 C Q [2, 20] K 3 20 [some (.ref 66), some (.ref a1), some (.int a2)] [.int s0] (xS I L z) b =
  (if s0 = 0 then Q (some (.int 0)) (xS I L z) else K 2 [some (.ref 66), some (.ref a1), some (.int (a2 + 1))] [] (xS I L z) b) := rfl
set_option maxRecDepth 100000 in
theorem b_X9_pours_0 {C : xC} {Q : xQ} {K : xK} {I : xI} {L : xL} {z : Bool × Bool × Nat} {b : Nat × Nat} {a1 : Nat} :
  xrun k_X9_pours 0 C Q [2, 40] K 2 0 [some (.ref 66), some (.ref a1), none] [] (xS I L z) b =
  K 2 [some (.ref 66), some (.ref a1), some (.int 0)] [] (xS I L z) b := rfl
set_option maxRecDepth 100000 in
theorem b_X9_pours_2 {C : xC} {Q : xQ} {K : xK} {I : xI} {L : xL} {z : Bool × Bool × Nat} {b : Nat × Nat} {a1 : Nat} {a2 : Int32} :
  xrun k_X9_pours 0 C Q [2, 40] K 22 2 [some (.ref 66), some (.ref a1), some (.int a2)] [] (xS I L z) b =
  (if a2 < (I 66 9) then (bif xis (xS I L z) a1 21 then (if xin a2 (xlen z.2.2 (a1)) then (if xin a2 (6) then (bif xis (xS (xw I 83 (Int32.toNatClampNeg a2) (Int64.toInt32 (L a1 (Int32.toNatClampNeg a2)))) L z) a1 21 then (if xin a2 (xlen z.2.2 (a1)) then (if xin a2 (6) then K 2 [some (.ref 66), some (.ref a1), some (.int (a2 + 1))] [] (xS (xw (xw I 83 (Int32.toNatClampNeg a2) (Int64.toInt32 (L a1 (Int32.toNatClampNeg a2)))) 84 (Int32.toNatClampNeg a2) (Int64.toInt32 (L a1 (Int32.toNatClampNeg a2)))) L z) b else False) else False) else False) else False) else False) else False) else C 203 [.ref 66] (xS I L z) (fun r τ => K 40 [some (.ref 66), some (.ref a1), some (.int a2)] (r.toList ++ []) τ b)) := rfl
set_option maxRecDepth 100000 in
theorem b_X9_pours_40 {C : xC} {Q : xQ} {K : xK} {I : xI} {L : xL} {z : Bool × Bool × Nat} {b : Nat × Nat} {a1 : Nat} {a2 : Int32} :
  xrun k_X9_pours 0 C Q [2, 40] K 1 40 [some (.ref 66), some (.ref a1), some (.int a2)] [] (xS I L z) b =
  Q none (xS I L z) := rfl
set_option maxRecDepth 100000 in
theorem b_X9_pour_0 {C : xC} {Q : xQ} {K : xK} {I : xI} {L : xL} {z : Bool × Bool × Nat} {b : Nat × Nat} {a1 : Int32} :
  xrun k_X9_pour 1 C Q [5, 22, 31, 42, 46] K 3 0 [some (.ref 66), some (.int a1), none] [] (xS I L z) b =
  C 207 [.ref 66, .int a1] (xS I L z) (fun r τ => K 5 [some (.ref 66), some (.int a1), none] (r.toList ++ []) τ b) := rfl
set_option maxRecDepth 100000 in
theorem b_X9_pour_5 {C : xC} {Q : xQ} {K : xK} {I : xI} {L : xL} {z : Bool × Bool × Nat} {b : Nat × Nat} {a1 : Int32} {s0 : Int32} :
  xrun k_X9_pour 1 C Q [5, 22, 31, 42, 46] K 9 5 [some (.ref 66), some (.int a1), none] [.int s0] (xS I L z) b =
  (if s0 = 0 then (if xin a1 (8) then C 208 [.ref 66, .ref (70 + 1 + Int32.toNatClampNeg a1)] (xS I L z) (fun r τ => K 22 [some (.ref 66), some (.int a1), some (.int s0)] (r.toList ++ []) τ b) else False) else Q (some (.int s0)) (xS I L z)) := rfl
set_option maxRecDepth 100000 in
theorem b_X9_pour_22 {C : xC} {Q : xQ} {K : xK} {I : xI} {L : xL} {z : Bool × Bool × Nat} {b : Nat × Nat} {a1 : Int32} {a2 : Int32} {s0 : Int32} :
  xrun k_X9_pour 1 C Q [5, 22, 31, 42, 46] K 7 22 [some (.ref 66), some (.int a1), some (.int a2)] [.int s0] (xS I L z) b =
  (if s0 = 0 then C 187 [.ref 66, .int (-2 : Int32)] (xS I L z) (fun r τ => K 31 [some (.ref 66), some (.int a1), some (.int a2)] (r.toList ++ []) τ b) else (if xin a1 (8) then C 209 [.ref 66, .ref (70 + 1 + Int32.toNatClampNeg a1)] (xS I L z) (fun r τ => K 42 [some (.ref 66), some (.int a1), some (.int a2)] (r.toList ++ []) τ b) else False)) := rfl
set_option maxRecDepth 100000 in
theorem b_X9_pour_31 {C : xC} {Q : xQ} {K : xK} {I : xI} {L : xL} {z : Bool × Bool × Nat} {b : Nat × Nat} {a1 : Int32} {a2 : Int32} {s0 : Int32} :
  xrun k_X9_pour 1 C Q [5, 22, 31, 42, 46] K 1 31 [some (.ref 66), some (.int a1), some (.int a2)] [.int s0] (xS I L z) b =
  Q (some (.int s0)) (xS I L z) := rfl
set_option maxRecDepth 100000 in
theorem b_X9_pour_42 {C : xC} {Q : xQ} {K : xK} {I : xI} {L : xL} {z : Bool × Bool × Nat} {b : Nat × Nat} {a1 : Int32} {a2 : Int32} :
  xrun k_X9_pour 1 C Q [5, 22, 31, 42, 46] K 2 42 [some (.ref 66), some (.int a1), some (.int a2)] [] (xS I L z) b =
  C 241 [.ref 66] (xS I L z) (fun r τ => K 46 [some (.ref 66), some (.int a1), some (.int a2)] (r.toList ++ []) τ b) := rfl
set_option maxRecDepth 100000 in
theorem b_X9_pour_46 {C : xC} {Q : xQ} {K : xK} {I : xI} {L : xL} {z : Bool × Bool × Nat} {b : Nat × Nat} {a1 : Int32} {a2 : Int32} :
  xrun k_X9_pour 1 C Q [5, 22, 31, 42, 46] K 3 46 [some (.ref 66), some (.int a1), some (.int a2)] [] (xS I L z) b =
  Q (some (.int (I 66 32))) (xS I L z) := rfl
set_option maxRecDepth 100000 in
theorem b_X9_isSeen_0 {C : xC} {Q : xQ} {K : xK} {I : xI} {L : xL} {z : Bool × Bool × Nat} {b : Nat × Nat} {a1 : Int32} {a2 : Int32} {a3 : Int32} :
  xrun k_X9_isSeen 2 C Q [4, 7, 29] K 2 0 [some (.ref 66), some (.int a1), some (.int a2), some (.int a3), none] [] (xS I L z) b =
  C 244 [.ref 66] (xS I L z) (fun r τ => K 4 [some (.ref 66), some (.int a1), some (.int a2), some (.int a3), none] (r.toList ++ []) τ b) := rfl
set_option maxRecDepth 100000 in
theorem b_X9_isSeen_4 {C : xC} {Q : xQ} {K : xK} {I : xI} {L : xL} {z : Bool × Bool × Nat} {b : Nat × Nat} {a1 : Int32} {a2 : Int32} {a3 : Int32} :
  xrun k_X9_isSeen 2 C Q [4, 7, 29] K 2 4 [some (.ref 66), some (.int a1), some (.int a2), some (.int a3), none] [] (xS I L z) b =
  K 7 [some (.ref 66), some (.int a1), some (.int a2), some (.int a3), some (.int 0)] [] (xS I L z) b := rfl
set_option maxRecDepth 100000 in
theorem b_X9_isSeen_7 {C : xC} {Q : xQ} {K : xK} {I : xI} {L : xL} {z : Bool × Bool × Nat} {b : Nat × Nat} {a1 : Int32} {a2 : Int32} {a3 : Int32} {a4 : Int32} :
  xrun k_X9_isSeen 2 C Q [4, 7, 29] K 12 7 [some (.ref 66), some (.int a1), some (.int a2), some (.int a3), some (.int a4)] [] (xS I L z) b =
  (if a4 < (I 66 36) then (if xin a4 (720) then C 242 [.ref 66, .int (I 108 (Int32.toNatClampNeg a4)), .int a1, .int a2] (xS I L z) (fun r τ => K 29 [some (.ref 66), some (.int a1), some (.int a2), some (.int a3), some (.int a4)] (r.toList ++ []) τ b) else False) else Q (some (.int 0)) (xS I L z)) := rfl
set_option maxRecDepth 100000 in
theorem b_X9_isSeen_29 {C : xC} {Q : xQ} {K : xK} {I : xI} {L : xL} {z : Bool × Bool × Nat} {b : Nat × Nat} {a1 : Int32} {a2 : Int32} {a3 : Int32} {a4 : Int32} {s0 : Int32} :
  xrun k_X9_isSeen 2 C Q [4, 7, 29] K 4 29 [some (.ref 66), some (.int a1), some (.int a2), some (.int a3), some (.int a4)] [.int s0] (xS I L z) b =
  (if s0 = a3 then Q (some (.int 1)) (xS I L z) else K 7 [some (.ref 66), some (.int a1), some (.int a2), some (.int a3), some (.int (a4 + 1))] [] (xS I L z) b) := rfl
set_option maxRecDepth 100000 in
theorem b_X9_sign_0 {C : xC} {Q : xQ} {K : xK} {I : xI} {L : xL} {z : Bool × Bool × Nat} {b : Nat × Nat} {a1 : Int32} {a2 : Int32} {a3 : Int32} :
  xrun k_X9_sign 1 C Q [6, 18, 26, 35, 43, 52, 66] K 4 0 [some (.ref 66), some (.int a1), some (.int a2), some (.int a3)] [] (xS I L z) b =
  C 189 [.ref 66, .long (Int32.toInt64 a1)] (xS I L z) (fun r τ => K 6 [some (.ref 66), some (.int a1), some (.int a2), some (.int a3)] (r.toList ++ []) τ b) := rfl
set_option maxRecDepth 100000 in
theorem b_X9_sign_6 {C : xC} {Q : xQ} {K : xK} {I : xI} {L : xL} {z : Bool × Bool × Nat} {b : Nat × Nat} {a1 : Int32} {a2 : Int32} {a3 : Int32} {s0 : Int32} :
  xrun k_X9_sign 1 C Q [6, 18, 26, 35, 43, 52, 66] K 6 6 [some (.ref 66), some (.int a1), some (.int a2), some (.int a3)] [.int s0] (xS I L z) b =
  (if s0 = 0 then C 187 [.ref 66, .int (-2 : Int32)] (xS I L z) (fun r τ => K 35 [some (.ref 66), some (.int a1), some (.int a2), some (.int a3)] (r.toList ++ []) τ b) else C 188 [.long (Int32.toInt64 a2), .long (Int64.ofNat 0), .long (Int64.ofNat 3)] (xS I L z) (fun r τ => K 18 [some (.ref 66), some (.int a1), some (.int a2), some (.int a3)] (r.toList ++ []) τ b)) := rfl
set_option maxRecDepth 100000 in
theorem b_X9_sign_18 {C : xC} {Q : xQ} {K : xK} {I : xI} {L : xL} {z : Bool × Bool × Nat} {b : Nat × Nat} {a1 : Int32} {a2 : Int32} {a3 : Int32} {s0 : Int32} :
  xrun k_X9_sign 1 C Q [6, 18, 26, 35, 43, 52, 66] K 4 18 [some (.ref 66), some (.int a1), some (.int a2), some (.int a3)] [.int s0] (xS I L z) b =
  (if s0 = 0 then C 187 [.ref 66, .int (-2 : Int32)] (xS I L z) (fun r τ => K 35 [some (.ref 66), some (.int a1), some (.int a2), some (.int a3)] (r.toList ++ []) τ b) else C 216 [.int a2, .int a3] (xS I L z) (fun r τ => K 26 [some (.ref 66), some (.int a1), some (.int a2), some (.int a3)] (r.toList ++ []) τ b)) := rfl
set_option maxRecDepth 100000 in
theorem b_X9_sign_35 {C : xC} {Q : xQ} {K : xK} {I : xI} {L : xL} {z : Bool × Bool × Nat} {b : Nat × Nat} {a1 : Int32} {a2 : Int32} {a3 : Int32} {s0 : Int32} :
  xrun k_X9_sign 1 C Q [6, 18, 26, 35, 43, 52, 66] K 1 35 [some (.ref 66), some (.int a1), some (.int a2), some (.int a3)] [.int s0] (xS I L z) b =
  Q (some (.int s0)) (xS I L z) := rfl
set_option maxRecDepth 100000 in
theorem b_X9_sign_26 {C : xC} {Q : xQ} {K : xK} {I : xI} {L : xL} {z : Bool × Bool × Nat} {b : Nat × Nat} {a1 : Int32} {a2 : Int32} {a3 : Int32} {s0 : Int32} :
  xrun k_X9_sign 1 C Q [6, 18, 26, 35, 43, 52, 66] K 6 26 [some (.ref 66), some (.int a1), some (.int a2), some (.int a3)] [.int s0] (xS I L z) b =
  (if s0 = 0 then C 187 [.ref 66, .int (-2 : Int32)] (xS I L z) (fun r τ => K 35 [some (.ref 66), some (.int a1), some (.int a2), some (.int a3)] (r.toList ++ []) τ b) else C 217 [.ref 66, .int a1, .int a2, .int a3] (xS I L z) (fun r τ => K 43 [some (.ref 66), some (.int a1), some (.int a2), some (.int a3)] (r.toList ++ []) τ b)) := rfl
set_option maxRecDepth 100000 in
theorem b_X9_sign_43 {C : xC} {Q : xQ} {K : xK} {I : xI} {L : xL} {z : Bool × Bool × Nat} {b : Nat × Nat} {a1 : Int32} {a2 : Int32} {a3 : Int32} {s0 : Int32} :
  xrun k_X9_sign 1 C Q [6, 18, 26, 35, 43, 52, 66] K 10 43 [some (.ref 66), some (.int a1), some (.int a2), some (.int a3)] [.int s0] (xS I L z) b =
  (if s0 = 0 then C 187 [.ref 66, .int (-5 : Int32)] (xS I L z) (fun r τ => K 52 [some (.ref 66), some (.int a1), some (.int a2), some (.int a3)] (r.toList ++ []) τ b) else (if xin a1 (6) then (bif xis (xS I L z) (94 + 1 + Int32.toNatClampNeg a1) 20 && Nat.blt 8 (94 + 1 + Int32.toNatClampNeg a1) then (if xin a2 (xlen z.2.2 (94 + 1 + Int32.toNatClampNeg a1)) then C 244 [.ref 66] (xS (xw I (94 + 1 + Int32.toNatClampNeg a1) (Int32.toNatClampNeg a2) a3) L z) (fun r τ => K 66 [some (.ref 66), some (.int a1), some (.int a2), some (.int a3)] (r.toList ++ []) τ b) else False) else False) else False)) := rfl
set_option maxRecDepth 100000 in
theorem b_X9_sign_52 {C : xC} {Q : xQ} {K : xK} {I : xI} {L : xL} {z : Bool × Bool × Nat} {b : Nat × Nat} {a1 : Int32} {a2 : Int32} {a3 : Int32} {s0 : Int32} :
  xrun k_X9_sign 1 C Q [6, 18, 26, 35, 43, 52, 66] K 1 52 [some (.ref 66), some (.int a1), some (.int a2), some (.int a3)] [.int s0] (xS I L z) b =
  Q (some (.int s0)) (xS I L z) := rfl
set_option maxRecDepth 100000 in
theorem b_X9_sign_66 {C : xC} {Q : xQ} {K : xK} {I : xI} {L : xL} {z : Bool × Bool × Nat} {b : Nat × Nat} {a1 : Int32} {a2 : Int32} {a3 : Int32} :
  xrun k_X9_sign 1 C Q [6, 18, 26, 35, 43, 52, 66] K 3 66 [some (.ref 66), some (.int a1), some (.int a2), some (.int a3)] [] (xS I L z) b =
  Q (some (.int (I 66 36))) (xS I L z) := rfl
set_option maxRecDepth 100000 in
theorem b_X9_forget_0 {C : xC} {Q : xQ} {K : xK} {I : xI} {L : xL} {z : Bool × Bool × Nat} {b : Nat × Nat}  :
  xrun k_X9_forget 1 C Q [4, 9] K 2 0 [some (.ref 66), none] [] (xS I L z) b =
  C 204 [.ref 66] (xS I L z) (fun r τ => K 4 [some (.ref 66), none] (r.toList ++ []) τ b) := rfl
set_option maxRecDepth 100000 in
theorem b_X9_forget_4 {C : xC} {Q : xQ} {K : xK} {I : xI} {L : xL} {z : Bool × Bool × Nat} {b : Nat × Nat} {s0 : Int32} :
  xrun k_X9_forget 1 C Q [4, 9] K 3 4 [some (.ref 66), none] [.int s0] (xS I L z) b =
  C 203 [.ref 66] (xS I L z) (fun r τ => K 9 [some (.ref 66), some (.int s0)] (r.toList ++ []) τ b) := rfl
set_option maxRecDepth 100000 in
theorem b_X9_forget_9 {C : xC} {Q : xQ} {K : xK} {I : xI} {L : xL} {z : Bool × Bool × Nat} {b : Nat × Nat} {a1 : Int32} :
  xrun k_X9_forget 1 C Q [4, 9] K 2 9 [some (.ref 66), some (.int a1)] [] (xS I L z) b =
  Q (some (.int a1)) (xS I L z) := rfl
set_option maxRecDepth 100000 in
theorem b_X9_look_0 {C : xC} {Q : xQ} {K : xK} {I : xI} {L : xL} {z : Bool × Bool × Nat} {b : Nat × Nat}  :
  xrun k_X9_look 0 C Q [0, 38, 82, 90, 113, 141, 149, 172] K 19 0 [some (.ref 66)] [] (xS I L z) b =
  (if (I 66 23) < (I 66 7) then (if xin (I 66 23) (250) then (if (I 81 (Int32.toNatClampNeg (I 66 23))) = 32 then K 0 [some (.ref 66)] [] (xS (xw I 66 23 ((I 66 23) + 1)) L z) b else K 38 [some (.ref 66)] [] (xS I L z) b) else False) else K 38 [some (.ref 66)] [] (xS I L z) b) := rfl
set_option maxRecDepth 100000 in
theorem b_X9_look_38 {C : xC} {Q : xQ} {K : xK} {I : xI} {L : xL} {z : Bool × Bool × Nat} {b : Nat × Nat}  :
  xrun k_X9_look 0 C Q [0, 38, 82, 90, 113, 141, 149, 172] K 18 38 [some (.ref 66)] [] (xS I L z) b =
  (if ((xw (xw I 66 25 (I 66 23)) 66 26 0) 66 23) = ((xw (xw I 66 25 (I 66 23)) 66 26 0) 66 7) then Q none (xS (xw (xw (xw I 66 25 (I 66 23)) 66 26 0) 66 24 0) L z) else (if xin ((xw (xw I 66 25 (I 66 23)) 66 26 0) 66 23) (250) then C 222 [.int ((xw (xw I 66 25 (I 66 23)) 66 26 0) 81 (Int32.toNatClampNeg ((xw (xw I 66 25 (I 66 23)) 66 26 0) 66 23)))] (xS (xw (xw I 66 25 (I 66 23)) 66 26 0) L z) (fun r τ => K 82 [some (.ref 66)] (r.toList ++ []) τ b) else False)) := rfl
set_option maxRecDepth 100000 in
theorem b_X9_look_82 {C : xC} {Q : xQ} {K : xK} {I : xI} {L : xL} {z : Bool × Bool × Nat} {b : Nat × Nat} {s0 : Int32} :
  xrun k_X9_look 0 C Q [0, 38, 82, 90, 113, 141, 149, 172] K 7 82 [some (.ref 66)] [.int s0] (xS I L z) b =
  (if s0 = 0 then (if xin (I 66 23) (250) then C 223 [.int (I 81 (Int32.toNatClampNeg (I 66 23)))] (xS I L z) (fun r τ => K 141 [some (.ref 66)] (r.toList ++ []) τ b) else False) else K 90 [some (.ref 66)] [] (xS (xw I 66 24 1) L z) b) := rfl
set_option maxRecDepth 100000 in
theorem b_X9_look_90 {C : xC} {Q : xQ} {K : xK} {I : xI} {L : xL} {z : Bool × Bool × Nat} {b : Nat × Nat}  :
  xrun k_X9_look 0 C Q [0, 38, 82, 90, 113, 141, 149, 172] K 11 90 [some (.ref 66)] [] (xS I L z) b =
  (if (I 66 23) < (I 66 7) then (if xin (I 66 23) (250) then C 222 [.int (I 81 (Int32.toNatClampNeg (I 66 23)))] (xS I L z) (fun r τ => K 113 [some (.ref 66)] (r.toList ++ []) τ b) else False) else Q none (xS I L z)) := rfl
set_option maxRecDepth 100000 in
theorem b_X9_look_141 {C : xC} {Q : xQ} {K : xK} {I : xI} {L : xL} {z : Bool × Bool × Nat} {b : Nat × Nat} {s0 : Int32} :
  xrun k_X9_look 0 C Q [0, 38, 82, 90, 113, 141, 149, 172] K 19 141 [some (.ref 66)] [.int s0] (xS I L z) b =
  (if s0 = 0 then (if xin (I 66 23) (250) then (if (I 81 (Int32.toNatClampNeg (I 66 23))) = 59 then Q none (xS (xw (xw I 66 24 3) 66 23 (((xw I 66 24 3) 66 23) + 1)) L z) else Q none (xS (xw (xw I 66 24 4) 66 23 (((xw I 66 24 4) 66 23) + 1)) L z)) else False) else K 149 [some (.ref 66)] [] (xS (xw I 66 24 2) L z) b) := rfl
set_option maxRecDepth 100000 in
theorem b_X9_look_113 {C : xC} {Q : xQ} {K : xK} {I : xI} {L : xL} {z : Bool × Bool × Nat} {b : Nat × Nat} {s0 : Int32} :
  xrun k_X9_look 0 C Q [0, 38, 82, 90, 113, 141, 149, 172] K 8 113 [some (.ref 66)] [.int s0] (xS I L z) b =
  (if s0 = 0 then Q none (xS I L z) else K 90 [some (.ref 66)] [] (xS (xw I 66 23 ((I 66 23) + 1)) L z) b) := rfl
set_option maxRecDepth 100000 in
theorem b_X9_look_149 {C : xC} {Q : xQ} {K : xK} {I : xI} {L : xL} {z : Bool × Bool × Nat} {b : Nat × Nat}  :
  xrun k_X9_look 0 C Q [0, 38, 82, 90, 113, 141, 149, 172] K 11 149 [some (.ref 66)] [] (xS I L z) b =
  (if (I 66 23) < (I 66 7) then (if xin (I 66 23) (250) then C 223 [.int (I 81 (Int32.toNatClampNeg (I 66 23)))] (xS I L z) (fun r τ => K 172 [some (.ref 66)] (r.toList ++ []) τ b) else False) else Q none (xS I L z)) := rfl
set_option maxRecDepth 100000 in
theorem b_X9_look_172 {C : xC} {Q : xQ} {K : xK} {I : xI} {L : xL} {z : Bool × Bool × Nat} {b : Nat × Nat} {s0 : Int32} :
  xrun k_X9_look 0 C Q [0, 38, 82, 90, 113, 141, 149, 172] K 30 172 [some (.ref 66)] [.int s0] (xS I L z) b =
  (if s0 = 0 then Q none (xS I L z) else (if ((I 66 23) - (I 66 25)) < 2 then (if xin (I 66 23) (250) then K 149 [some (.ref 66)] [] (xS (xw (xw I 66 26 ((((I 66 26) * 10) + (I 81 (Int32.toNatClampNeg (I 66 23)))) - 48)) 66 23 (((xw I 66 26 ((((I 66 26) * 10) + (I 81 (Int32.toNatClampNeg (I 66 23)))) - 48)) 66 23) + 1)) L z) b else False) else K 149 [some (.ref 66)] [] (xS (xw (xw I 66 26 1000) 66 23 (((xw I 66 26 1000) 66 23) + 1)) L z) b)) := rfl
set_option maxRecDepth 100000 in
theorem b_X9_isWord_0 {C : xC} {Q : xQ} {K : xK} {I : xI} {L : xL} {z : Bool × Bool × Nat} {b : Nat × Nat} {a1 : Nat} :
  xrun k_X9_isWord 2 C Q [28] K 14 0 [some (.ref 66), some (.ref a1), none] [] (xS I L z) b =
  (if (I 66 24) = 1 then (bif Nat.beq (xkind a1) 24 && Nat.ble 1 4 then (if ((I 66 23) - (I 66 25)) = (Int32.ofNat (xtext a1).length) then K 28 [some (.ref 66), some (.ref a1), some (.int 0)] [] (xS I L z) b else Q (some (.int 0)) (xS I L z)) else False) else Q (some (.int 0)) (xS I L z)) := rfl
set_option maxRecDepth 100000 in
theorem b_X9_isWord_28 {C : xC} {Q : xQ} {K : xK} {I : xI} {L : xL} {z : Bool × Bool × Nat} {b : Nat × Nat} {a1 : Nat} {a2 : Int32} :
  xrun k_X9_isWord 2 C Q [28] K 17 28 [some (.ref 66), some (.ref a1), some (.int a2)] [] (xS I L z) b =
  (bif Nat.beq (xkind a1) 24 && Nat.ble 1 4 then (if a2 < (Int32.ofNat (xtext a1).length) then (if xin ((I 66 25) + a2) (250) then (bif Nat.beq (xkind a1) 24 && Nat.ble 1 4 then (if xin a2 (xtext a1).length then (if (I 81 (Int32.toNatClampNeg ((I 66 25) + a2))) = (Int32.ofNat (xnth 0 (xtext a1) (Int32.toNatClampNeg a2))) then K 28 [some (.ref 66), some (.ref a1), some (.int (a2 + 1))] [] (xS I L z) b else Q (some (.int 0)) (xS I L z)) else False) else False) else False) else Q (some (.int 1)) (xS I L z)) else False) := rfl
set_option maxRecDepth 100000 in
theorem b_X9_number_0 {C : xC} {Q : xQ} {K : xK} {I : xI} {L : xL} {z : Bool × Bool × Nat} {b : Nat × Nat} {a1 : Int32} {a2 : Int32} {a3 : Int32} :
  xrun k_X9_number 2 C Q [20, 27, 42] K 12 0 [some (.ref 66), some (.int a1), some (.int a2), some (.int a3)] [] (xS I L z) b =
  (if (I 66 24) = 2 then C 188 [.long (Int32.toInt64 (I 66 26)), .long (Int32.toInt64 a2), .long (Int32.toInt64 a3)] (xS I L z) (fun r τ => K 20 [some (.ref 66), some (.int a1), some (.int a2), some (.int a3)] (r.toList ++ []) τ b) else C 225 [.ref 66] (xS I L z) (fun r τ => K 27 [some (.ref 66), some (.int a1), some (.int a2), some (.int a3)] (r.toList ++ []) τ b)) := rfl
set_option maxRecDepth 100000 in
theorem b_X9_number_20 {C : xC} {Q : xQ} {K : xK} {I : xI} {L : xL} {z : Bool × Bool × Nat} {b : Nat × Nat} {a1 : Int32} {a2 : Int32} {a3 : Int32} {s0 : Int32} :
  xrun k_X9_number 2 C Q [20, 27, 42] K 9 20 [some (.ref 66), some (.int a1), some (.int a2), some (.int a3)] [.int s0] (xS I L z) b =
  (if s0 = 0 then C 225 [.ref 66] (xS I L z) (fun r τ => K 27 [some (.ref 66), some (.int a1), some (.int a2), some (.int a3)] (r.toList ++ []) τ b) else (if xin a1 (4) then C 224 [.ref 66] (xS (xw I 103 (Int32.toNatClampNeg a1) (I 66 26)) L z) (fun r τ => K 42 [some (.ref 66), some (.int a1), some (.int a2), some (.int a3)] (r.toList ++ []) τ b) else False)) := rfl
set_option maxRecDepth 100000 in
theorem b_X9_number_27 {C : xC} {Q : xQ} {K : xK} {I : xI} {L : xL} {z : Bool × Bool × Nat} {b : Nat × Nat} {a1 : Int32} {a2 : Int32} {a3 : Int32} {s0 : Int32} :
  xrun k_X9_number 2 C Q [20, 27, 42] K 1 27 [some (.ref 66), some (.int a1), some (.int a2), some (.int a3)] [.int s0] (xS I L z) b =
  (bif xbool s0 then Q (some (.int s0)) (xS I L z) else False) := rfl
set_option maxRecDepth 100000 in
theorem b_X9_number_42 {C : xC} {Q : xQ} {K : xK} {I : xI} {L : xL} {z : Bool × Bool × Nat} {b : Nat × Nat} {a1 : Int32} {a2 : Int32} {a3 : Int32} :
  xrun k_X9_number 2 C Q [20, 27, 42] K 2 42 [some (.ref 66), some (.int a1), some (.int a2), some (.int a3)] [] (xS I L z) b =
  Q (some (.int 1)) (xS I L z) := rfl
set_option maxRecDepth 100000 in
theorem b_X9_tells_0 {C : xC} {Q : xQ} {K : xK} {I : xI} {L : xL} {z : Bool × Bool × Nat} {b : Nat × Nat} {a1 : Int32} {a2 : Int32} :
  xrun k_X9_tells 2 C Q [4, 11] K 2 0 [some (.ref 66), some (.int a1), some (.int a2)] [] (xS I L z) b =
  C 224 [.ref 66] (xS I L z) (fun r τ => K 4 [some (.ref 66), some (.int a1), some (.int a2)] (r.toList ++ []) τ b) := rfl
set_option maxRecDepth 100000 in
theorem b_X9_tells_4 {C : xC} {Q : xQ} {K : xK} {I : xI} {L : xL} {z : Bool × Bool × Nat} {b : Nat × Nat} {a1 : Int32} {a2 : Int32} :
  xrun k_X9_tells 2 C Q [4, 11] K 5 4 [some (.ref 66), some (.int a1), some (.int a2)] [] (xS I L z) b =
  C 227 [.ref 66, .int 0, .int a1, .int a2] (xS I L z) (fun r τ => K 11 [some (.ref 66), some (.int a1), some (.int a2)] (r.toList ++ []) τ b) := rfl
set_option maxRecDepth 100000 in
theorem b_X9_tells_11 {C : xC} {Q : xQ} {K : xK} {I : xI} {L : xL} {z : Bool × Bool × Nat} {b : Nat × Nat} {a1 : Int32} {a2 : Int32} {s0 : Int32} :
  xrun k_X9_tells 2 C Q [4, 11] K 1 11 [some (.ref 66), some (.int a1), some (.int a2)] [.int s0] (xS I L z) b =
  (bif xbool s0 then Q (some (.int s0)) (xS I L z) else False) := rfl
set_option maxRecDepth 100000 in
theorem b_X9_pourTold_0 {C : xC} {Q : xQ} {K : xK} {I : xI} {L : xL} {z : Bool × Bool × Nat} {b : Nat × Nat}  :
  xrun k_X9_pourTold 2 C Q [4, 6, 21, 53] K 2 0 [some (.ref 66), none] [] (xS I L z) b =
  C 224 [.ref 66] (xS I L z) (fun r τ => K 4 [some (.ref 66), none] (r.toList ++ []) τ b) := rfl
set_option maxRecDepth 100000 in
theorem b_X9_pourTold_4 {C : xC} {Q : xQ} {K : xK} {I : xI} {L : xL} {z : Bool × Bool × Nat} {b : Nat × Nat}  :
  xrun k_X9_pourTold 2 C Q [4, 6, 21, 53] K 2 4 [some (.ref 66), none] [] (xS I L z) b =
  K 6 [some (.ref 66), some (.int 0)] [] (xS I L z) b := rfl
set_option maxRecDepth 100000 in
theorem b_X9_pourTold_6 {C : xC} {Q : xQ} {K : xK} {I : xI} {L : xL} {z : Bool × Bool × Nat} {b : Nat × Nat} {a1 : Int32} :
  xrun k_X9_pourTold 2 C Q [4, 6, 21, 53] K 9 6 [some (.ref 66), some (.int a1)] [] (xS I L z) b =
  (if a1 < (I 66 9) then C 227 [.ref 66, .int 0, .int 0, .int 5] (xS I L z) (fun r τ => K 21 [some (.ref 66), some (.int a1)] (r.toList ++ []) τ b) else C 209 [.ref 66, .ref 104] (xS I L z) (fun r τ => K 53 [some (.ref 66), some (.int a1)] (r.toList ++ []) τ b)) := rfl
set_option maxRecDepth 100000 in
theorem b_X9_pourTold_21 {C : xC} {Q : xQ} {K : xK} {I : xI} {L : xL} {z : Bool × Bool × Nat} {b : Nat × Nat} {a1 : Int32} {s0 : Int32} :
  xrun k_X9_pourTold 2 C Q [4, 6, 21, 53] K 12 21 [some (.ref 66), some (.int a1)] [.int s0] (xS I L z) b =
  (if s0 = 0 then Q (some (.int 0)) (xS I L z) else (if xin a1 (6) then K 6 [some (.ref 66), some (.int (a1 + 1))] [] (xS I (xwl L 104 (Int32.toNatClampNeg a1) (Int32.toInt64 (I 103 (Int32.toNatClampNeg 0)))) z) b else False)) := rfl
set_option maxRecDepth 100000 in
theorem b_X9_pourTold_53 {C : xC} {Q : xQ} {K : xK} {I : xI} {L : xL} {z : Bool × Bool × Nat} {b : Nat × Nat} {a1 : Int32} :
  xrun k_X9_pourTold 2 C Q [4, 6, 21, 53] K 2 53 [some (.ref 66), some (.int a1)] [] (xS I L z) b =
  Q (some (.int 1)) (xS I L z) := rfl
set_option maxRecDepth 100000 in
theorem b_X9_signTold_0 {C : xC} {Q : xQ} {K : xK} {I : xI} {L : xL} {z : Bool × Bool × Nat} {b : Nat × Nat}  :
  xrun k_X9_signTold 2 C Q [11, 21, 47, 70, 77, 104] K 7 0 [some (.ref 66)] [] (xS I L z) b =
  C 228 [.ref 66, .int 0, .int ((I 66 9) - 1)] (xS I L z) (fun r τ => K 11 [some (.ref 66)] (r.toList ++ []) τ b) := rfl
set_option maxRecDepth 100000 in
theorem b_X9_signTold_11 {C : xC} {Q : xQ} {K : xK} {I : xI} {L : xL} {z : Bool × Bool × Nat} {b : Nat × Nat} {s0 : Int32} :
  xrun k_X9_signTold 2 C Q [11, 21, 47, 70, 77, 104] K 6 11 [some (.ref 66)] [.int s0] (xS I L z) b =
  (if s0 = 0 then Q (some (.int 0)) (xS I L z) else C 227 [.ref 66, .int 1, .int 0, .int 3] (xS I L z) (fun r τ => K 21 [some (.ref 66)] (r.toList ++ []) τ b)) := rfl
set_option maxRecDepth 100000 in
theorem b_X9_signTold_21 {C : xC} {Q : xQ} {K : xK} {I : xI} {L : xL} {z : Bool × Bool × Nat} {b : Nat × Nat} {s0 : Int32} :
  xrun k_X9_signTold 2 C Q [11, 21, 47, 70, 77, 104] K 12 21 [some (.ref 66)] [.int s0] (xS I L z) b =
  (if s0 = 0 then Q (some (.int 0)) (xS I L z) else (if (I 66 24) = 2 then C 216 [.int (I 103 (Int32.toNatClampNeg 1)), .int (I 66 26)] (xS I L z) (fun r τ => K 47 [some (.ref 66)] (r.toList ++ []) τ b) else C 225 [.ref 66] (xS I L z) (fun r τ => K 77 [some (.ref 66)] (r.toList ++ []) τ b))) := rfl
set_option maxRecDepth 100000 in
theorem b_X9_signTold_47 {C : xC} {Q : xQ} {K : xK} {I : xI} {L : xL} {z : Bool × Bool × Nat} {b : Nat × Nat} {s0 : Int32} :
  xrun k_X9_signTold 2 C Q [11, 21, 47, 70, 77, 104] K 13 47 [some (.ref 66)] [.int s0] (xS I L z) b =
  (if s0 = 0 then C 225 [.ref 66] (xS I L z) (fun r τ => K 77 [some (.ref 66)] (r.toList ++ []) τ b) else C 217 [.ref 66, .int (I 103 (Int32.toNatClampNeg 0)), .int (I 103 (Int32.toNatClampNeg 1)), .int (I 66 26)] (xS I L z) (fun r τ => K 70 [some (.ref 66)] (r.toList ++ []) τ b)) := rfl
set_option maxRecDepth 100000 in
theorem b_X9_signTold_77 {C : xC} {Q : xQ} {K : xK} {I : xI} {L : xL} {z : Bool × Bool × Nat} {b : Nat × Nat} {s0 : Int32} :
  xrun k_X9_signTold 2 C Q [11, 21, 47, 70, 77, 104] K 1 77 [some (.ref 66)] [.int s0] (xS I L z) b =
  (bif xbool s0 then Q (some (.int s0)) (xS I L z) else False) := rfl
set_option maxRecDepth 100000 in
theorem b_X9_signTold_70 {C : xC} {Q : xQ} {K : xK} {I : xI} {L : xL} {z : Bool × Bool × Nat} {b : Nat × Nat} {s0 : Int32} :
  xrun k_X9_signTold 2 C Q [11, 21, 47, 70, 77, 104] K 17 70 [some (.ref 66)] [.int s0] (xS I L z) b =
  (if s0 = 0 then C 225 [.ref 66] (xS I L z) (fun r τ => K 77 [some (.ref 66)] (r.toList ++ []) τ b) else (if xin (I 103 (Int32.toNatClampNeg 0)) (6) then (bif xis (xS I L z) (94 + 1 + Int32.toNatClampNeg (I 103 (Int32.toNatClampNeg 0))) 20 && Nat.blt 8 (94 + 1 + Int32.toNatClampNeg (I 103 (Int32.toNatClampNeg 0))) then (if xin (I 103 (Int32.toNatClampNeg 1)) (xlen z.2.2 (94 + 1 + Int32.toNatClampNeg (I 103 (Int32.toNatClampNeg 0)))) then C 224 [.ref 66] (xS (xw I (94 + 1 + Int32.toNatClampNeg (I 103 (Int32.toNatClampNeg 0))) (Int32.toNatClampNeg (I 103 (Int32.toNatClampNeg 1))) (I 66 26)) L z) (fun r τ => K 104 [some (.ref 66)] (r.toList ++ []) τ b) else False) else False) else False)) := rfl
set_option maxRecDepth 100000 in
theorem b_X9_signTold_104 {C : xC} {Q : xQ} {K : xK} {I : xI} {L : xL} {z : Bool × Bool × Nat} {b : Nat × Nat}  :
  xrun k_X9_signTold 2 C Q [11, 21, 47, 70, 77, 104] K 2 104 [some (.ref 66)] [] (xS I L z) b =
  Q (some (.int 1)) (xS I L z) := rfl
