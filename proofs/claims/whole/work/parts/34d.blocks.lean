set_option maxRecDepth 100000 in
theorem b_X9_statement_0 {C : xC} {Q : xQ} {K : xK} {I : xI} {L : xL} {z : Bool × Bool × Nat} {b : Nat × Nat}  :
  xrun k_X9_statement 2 C Q [6, 16, 31, 39, 46, 54, 63, 94, 103, 114, 125, 136, 143, 184, 198, 208, 219, 267, 274, 281] K 3 0 [some (.ref 66), none] [] (xS I L z) b =
  C 226 [.ref 66, .ref 3] (xS I L z) (fun r τ => K 6 [some (.ref 66), none] (r.toList ++ []) τ b) := rfl
set_option maxRecDepth 100000 in
theorem b_X9_statement_6 {C : xC} {Q : xQ} {K : xK} {I : xI} {L : xL} {z : Bool × Bool × Nat} {b : Nat × Nat} {s0 : Int32} :
  xrun k_X9_statement 2 C Q [6, 16, 31, 39, 46, 54, 63, 94, 103, 114, 125, 136, 143, 184, 198, 208, 219, 267, 274, 281] K 5 6 [some (.ref 66), none] [.int s0] (xS I L z) b =
  (if s0 = 0 then C 226 [.ref 66, .ref 4] (xS I L z) (fun r τ => K 39 [some (.ref 66), none] (r.toList ++ []) τ b) else C 228 [.ref 66, .int 2, .int 6] (xS I L z) (fun r τ => K 16 [some (.ref 66), none] (r.toList ++ []) τ b)) := rfl
set_option maxRecDepth 100000 in
theorem b_X9_statement_16 {C : xC} {Q : xQ} {K : xK} {I : xI} {L : xL} {z : Bool × Bool × Nat} {b : Nat × Nat} {s0 : Int32} :
  xrun k_X9_statement 2 C Q [6, 16, 31, 39, 46, 54, 63, 94, 103, 114, 125, 136, 143, 184, 198, 208, 219, 267, 274, 281] K 9 16 [some (.ref 66), none] [.int s0] (xS I L z) b =
  (if s0 = 0 then K 31 [some (.ref 66), some (.int s0)] [] (xS I L z) b else C 205 [.ref 66, .int (I 103 (Int32.toNatClampNeg 0))] (xS I L z) (fun r τ => K 31 [some (.ref 66), some (.int s0)] (r.toList ++ []) τ b)) := rfl
set_option maxRecDepth 100000 in
theorem b_X9_statement_39 {C : xC} {Q : xQ} {K : xK} {I : xI} {L : xL} {z : Bool × Bool × Nat} {b : Nat × Nat} {s0 : Int32} :
  xrun k_X9_statement 2 C Q [6, 16, 31, 39, 46, 54, 63, 94, 103, 114, 125, 136, 143, 184, 198, 208, 219, 267, 274, 281] K 4 39 [some (.ref 66), none] [.int s0] (xS I L z) b =
  (if s0 = 0 then C 226 [.ref 66, .ref 5] (xS I L z) (fun r τ => K 54 [some (.ref 66), none] (r.toList ++ []) τ b) else C 229 [.ref 66] (xS I L z) (fun r τ => K 46 [some (.ref 66), none] (r.toList ++ []) τ b)) := rfl
set_option maxRecDepth 100000 in
theorem b_X9_statement_31 {C : xC} {Q : xQ} {K : xK} {I : xI} {L : xL} {z : Bool × Bool × Nat} {b : Nat × Nat} {a1 : Int32} :
  xrun k_X9_statement 2 C Q [6, 16, 31, 39, 46, 54, 63, 94, 103, 114, 125, 136, 143, 184, 198, 208, 219, 267, 274, 281] K 2 31 [some (.ref 66), some (.int a1)] [] (xS I L z) b =
  (bif xbool a1 then Q (some (.int a1)) (xS I L z) else False) := rfl
set_option maxRecDepth 100000 in
theorem b_X9_statement_46 {C : xC} {Q : xQ} {K : xK} {I : xI} {L : xL} {z : Bool × Bool × Nat} {b : Nat × Nat} {s0 : Int32} :
  xrun k_X9_statement 2 C Q [6, 16, 31, 39, 46, 54, 63, 94, 103, 114, 125, 136, 143, 184, 198, 208, 219, 267, 274, 281] K 1 46 [some (.ref 66), none] [.int s0] (xS I L z) b =
  (bif xbool s0 then Q (some (.int s0)) (xS I L z) else False) := rfl
set_option maxRecDepth 100000 in
theorem b_X9_statement_54 {C : xC} {Q : xQ} {K : xK} {I : xI} {L : xL} {z : Bool × Bool × Nat} {b : Nat × Nat} {s0 : Int32} :
  xrun k_X9_statement 2 C Q [6, 16, 31, 39, 46, 54, 63, 94, 103, 114, 125, 136, 143, 184, 198, 208, 219, 267, 274, 281] K 5 54 [some (.ref 66), none] [.int s0] (xS I L z) b =
  (if s0 = 0 then C 226 [.ref 66, .ref 6] (xS I L z) (fun r τ => K 94 [some (.ref 66), none] (r.toList ++ []) τ b) else C 228 [.ref 66, .int 0, .int 2] (xS I L z) (fun r τ => K 63 [some (.ref 66), none] (r.toList ++ []) τ b)) := rfl
set_option maxRecDepth 100000 in
theorem b_X9_statement_63 {C : xC} {Q : xQ} {K : xK} {I : xI} {L : xL} {z : Bool × Bool × Nat} {b : Nat × Nat} {s0 : Int32} :
  xrun k_X9_statement 2 C Q [6, 16, 31, 39, 46, 54, 63, 94, 103, 114, 125, 136, 143, 184, 198, 208, 219, 267, 274, 281] K 12 63 [some (.ref 66), none] [.int s0] (xS I L z) b =
  (if s0 = 0 then (bif xbool s0 then Q (some (.int s0)) (xS (xw I 66 10 (I 66 10)) L z) else False) else (bif xbool s0 then Q (some (.int s0)) (xS (xw I 66 10 (I 103 (Int32.toNatClampNeg 0))) L z) else False)) := rfl
set_option maxRecDepth 100000 in
theorem b_X9_statement_94 {C : xC} {Q : xQ} {K : xK} {I : xI} {L : xL} {z : Bool × Bool × Nat} {b : Nat × Nat} {s0 : Int32} :
  xrun k_X9_statement 2 C Q [6, 16, 31, 39, 46, 54, 63, 94, 103, 114, 125, 136, 143, 184, 198, 208, 219, 267, 274, 281] K 5 94 [some (.ref 66), none] [.int s0] (xS I L z) b =
  (if s0 = 0 then C 226 [.ref 66, .ref 7] (xS I L z) (fun r τ => K 184 [some (.ref 66), none] (r.toList ++ []) τ b) else C 228 [.ref 66, .int 0, .int 5] (xS I L z) (fun r τ => K 103 [some (.ref 66), none] (r.toList ++ []) τ b)) := rfl
set_option maxRecDepth 100000 in
theorem b_X9_statement_103 {C : xC} {Q : xQ} {K : xK} {I : xI} {L : xL} {z : Bool × Bool × Nat} {b : Nat × Nat} {s0 : Int32} :
  xrun k_X9_statement 2 C Q [6, 16, 31, 39, 46, 54, 63, 94, 103, 114, 125, 136, 143, 184, 198, 208, 219, 267, 274, 281] K 6 103 [some (.ref 66), none] [.int s0] (xS I L z) b =
  (if s0 = 0 then Q (some (.int 0)) (xS I L z) else C 227 [.ref 66, .int 1, .int 0, .int 9] (xS I L z) (fun r τ => K 114 [some (.ref 66), none] (r.toList ++ []) τ b)) := rfl
set_option maxRecDepth 100000 in
theorem b_X9_statement_184 {C : xC} {Q : xQ} {K : xK} {I : xI} {L : xL} {z : Bool × Bool × Nat} {b : Nat × Nat} {s0 : Int32} :
  xrun k_X9_statement 2 C Q [6, 16, 31, 39, 46, 54, 63, 94, 103, 114, 125, 136, 143, 184, 198, 208, 219, 267, 274, 281] K 8 184 [some (.ref 66), none] [.int s0] (xS I L z) b =
  (if s0 = 0 then C 226 [.ref 66, .ref 8] (xS I L z) (fun r τ => K 267 [some (.ref 66), none] (r.toList ++ []) τ b) else C 228 [.ref 66, .int 0, .int ((I 66 9) - 1)] (xS I L z) (fun r τ => K 198 [some (.ref 66), none] (r.toList ++ []) τ b)) := rfl
set_option maxRecDepth 100000 in
theorem b_X9_statement_114 {C : xC} {Q : xQ} {K : xK} {I : xI} {L : xL} {z : Bool × Bool × Nat} {b : Nat × Nat} {s0 : Int32} :
  xrun k_X9_statement 2 C Q [6, 16, 31, 39, 46, 54, 63, 94, 103, 114, 125, 136, 143, 184, 198, 208, 219, 267, 274, 281] K 6 114 [some (.ref 66), none] [.int s0] (xS I L z) b =
  (if s0 = 0 then Q (some (.int 0)) (xS I L z) else C 227 [.ref 66, .int 2, .int 0, .int 9] (xS I L z) (fun r τ => K 125 [some (.ref 66), none] (r.toList ++ []) τ b)) := rfl
set_option maxRecDepth 100000 in
theorem b_X9_statement_198 {C : xC} {Q : xQ} {K : xK} {I : xI} {L : xL} {z : Bool × Bool × Nat} {b : Nat × Nat} {s0 : Int32} :
  xrun k_X9_statement 2 C Q [6, 16, 31, 39, 46, 54, 63, 94, 103, 114, 125, 136, 143, 184, 198, 208, 219, 267, 274, 281] K 6 198 [some (.ref 66), none] [.int s0] (xS I L z) b =
  (if s0 = 0 then Q (some (.int 0)) (xS I L z) else C 227 [.ref 66, .int 1, .int 0, .int 5] (xS I L z) (fun r τ => K 208 [some (.ref 66), none] (r.toList ++ []) τ b)) := rfl
set_option maxRecDepth 100000 in
theorem b_X9_statement_267 {C : xC} {Q : xQ} {K : xK} {I : xI} {L : xL} {z : Bool × Bool × Nat} {b : Nat × Nat} {s0 : Int32} :
  xrun k_X9_statement 2 C Q [6, 16, 31, 39, 46, 54, 63, 94, 103, 114, 125, 136, 143, 184, 198, 208, 219, 267, 274, 281] K 3 267 [some (.ref 66), none] [.int s0] (xS I L z) b =
  (if s0 = 0 then C 225 [.ref 66] (xS I L z) (fun r τ => K 281 [some (.ref 66), none] (r.toList ++ []) τ b) else C 230 [.ref 66] (xS I L z) (fun r τ => K 274 [some (.ref 66), none] (r.toList ++ []) τ b)) := rfl
set_option maxRecDepth 100000 in
theorem b_X9_statement_125 {C : xC} {Q : xQ} {K : xK} {I : xI} {L : xL} {z : Bool × Bool × Nat} {b : Nat × Nat} {s0 : Int32} :
  xrun k_X9_statement 2 C Q [6, 16, 31, 39, 46, 54, 63, 94, 103, 114, 125, 136, 143, 184, 198, 208, 219, 267, 274, 281] K 6 125 [some (.ref 66), none] [.int s0] (xS I L z) b =
  (if s0 = 0 then Q (some (.int 0)) (xS I L z) else C 227 [.ref 66, .int 3, .int 0, .int 9] (xS I L z) (fun r τ => K 136 [some (.ref 66), none] (r.toList ++ []) τ b)) := rfl
set_option maxRecDepth 100000 in
theorem b_X9_statement_208 {C : xC} {Q : xQ} {K : xK} {I : xI} {L : xL} {z : Bool × Bool × Nat} {b : Nat × Nat} {s0 : Int32} :
  xrun k_X9_statement 2 C Q [6, 16, 31, 39, 46, 54, 63, 94, 103, 114, 125, 136, 143, 184, 198, 208, 219, 267, 274, 281] K 6 208 [some (.ref 66), none] [.int s0] (xS I L z) b =
  (if s0 = 0 then Q (some (.int 0)) (xS I L z) else C 227 [.ref 66, .int 2, .int 0, .int 9] (xS I L z) (fun r τ => K 219 [some (.ref 66), none] (r.toList ++ []) τ b)) := rfl
set_option maxRecDepth 100000 in
theorem b_X9_statement_274 {C : xC} {Q : xQ} {K : xK} {I : xI} {L : xL} {z : Bool × Bool × Nat} {b : Nat × Nat} {s0 : Int32} :
  xrun k_X9_statement 2 C Q [6, 16, 31, 39, 46, 54, 63, 94, 103, 114, 125, 136, 143, 184, 198, 208, 219, 267, 274, 281] K 1 274 [some (.ref 66), none] [.int s0] (xS I L z) b =
  K 281 [some (.ref 66), none] [.int s0] (xS I L z) b := rfl
set_option maxRecDepth 100000 in
theorem b_X9_statement_281 {C : xC} {Q : xQ} {K : xK} {I : xI} {L : xL} {z : Bool × Bool × Nat} {b : Nat × Nat} {s0 : Int32} :
  xrun k_X9_statement 2 C Q [6, 16, 31, 39, 46, 54, 63, 94, 103, 114, 125, 136, 143, 184, 198, 208, 219, 267, 274, 281] K 1 281 [some (.ref 66), none] [.int s0] (xS I L z) b =
  (bif xbool s0 then Q (some (.int s0)) (xS I L z) else False) := rfl
set_option maxRecDepth 100000 in
theorem b_X9_statement_136 {C : xC} {Q : xQ} {K : xK} {I : xI} {L : xL} {z : Bool × Bool × Nat} {b : Nat × Nat} {s0 : Int32} :
  xrun k_X9_statement 2 C Q [6, 16, 31, 39, 46, 54, 63, 94, 103, 114, 125, 136, 143, 184, 198, 208, 219, 267, 274, 281] K 3 136 [some (.ref 66), none] [.int s0] (xS I L z) b =
  (if s0 = 0 then Q (some (.int 0)) (xS I L z) else K 143 [some (.ref 66), some (.int 0)] [] (xS I L z) b) := rfl
set_option maxRecDepth 100000 in
theorem b_X9_statement_219 {C : xC} {Q : xQ} {K : xK} {I : xI} {L : xL} {z : Bool × Bool × Nat} {b : Nat × Nat} {s0 : Int32} :
  xrun k_X9_statement 2 C Q [6, 16, 31, 39, 46, 54, 63, 94, 103, 114, 125, 136, 143, 184, 198, 208, 219, 267, 274, 281] K 25 219 [some (.ref 66), none] [.int s0] (xS I L z) b =
  (if s0 = 0 then Q (some (.int 0)) (xS I L z) else (if xin (I 103 (Int32.toNatClampNeg 0)) (6) then (if xin ((xw I 92 (Int32.toNatClampNeg (I 103 (Int32.toNatClampNeg 0))) (I 103 (Int32.toNatClampNeg 1))) 103 (Int32.toNatClampNeg 0)) (6) then Q (some (.int 1)) (xS (xw (xw I 92 (Int32.toNatClampNeg (I 103 (Int32.toNatClampNeg 0))) (I 103 (Int32.toNatClampNeg 1))) 93 (Int32.toNatClampNeg ((xw I 92 (Int32.toNatClampNeg (I 103 (Int32.toNatClampNeg 0))) (I 103 (Int32.toNatClampNeg 1))) 103 (Int32.toNatClampNeg 0))) ((xw I 92 (Int32.toNatClampNeg (I 103 (Int32.toNatClampNeg 0))) (I 103 (Int32.toNatClampNeg 1))) 103 (Int32.toNatClampNeg 2))) L z) else False) else False)) := rfl
set_option maxRecDepth 100000 in
theorem b_X9_statement_143 {C : xC} {Q : xQ} {K : xK} {I : xI} {L : xL} {z : Bool × Bool × Nat} {b : Nat × Nat} {a1 : Int32} :
  xrun k_X9_statement 2 C Q [6, 16, 31, 39, 46, 54, 63, 94, 103, 114, 125, 136, 143, 184, 198, 208, 219, 267, 274, 281] K 20 143 [some (.ref 66), some (.int a1)] [] (xS I L z) b =
  (if a1 < 3 then (if xin (I 103 (Int32.toNatClampNeg 0)) (6) then (if xin (a1 + 1) (4) then (bif xis (xS I L z) (85 + 1 + Int32.toNatClampNeg (I 103 (Int32.toNatClampNeg 0))) 20 && Nat.blt 8 (85 + 1 + Int32.toNatClampNeg (I 103 (Int32.toNatClampNeg 0))) then (if xin a1 (xlen z.2.2 (85 + 1 + Int32.toNatClampNeg (I 103 (Int32.toNatClampNeg 0)))) then K 143 [some (.ref 66), some (.int (a1 + 1))] [] (xS (xw I (85 + 1 + Int32.toNatClampNeg (I 103 (Int32.toNatClampNeg 0))) (Int32.toNatClampNeg a1) (I 103 (Int32.toNatClampNeg (a1 + 1)))) L z) b else False) else False) else False) else False) else Q (some (.int 1)) (xS I L z)) := rfl
set_option maxRecDepth 100000 in
theorem b_X9_readAll_0 {C : xC} {Q : xQ} {K : xK} {I : xI} {L : xL} {z : Bool × Bool × Nat} {b : Nat × Nat}  :
  xrun k_X9_readAll 2 C Q [14, 18, 23, 42, 47, 51] K 8 0 [some (.ref 66)] [] (xS I L z) b =
  C 224 [.ref 66] (xS (xw (xw I 66 30 1) 66 23 0) L z) (fun r τ => K 14 [some (.ref 66)] (r.toList ++ []) τ b) := rfl
set_option maxRecDepth 100000 in
theorem b_X9_readAll_14 {C : xC} {Q : xQ} {K : xK} {I : xI} {L : xL} {z : Bool × Bool × Nat} {b : Nat × Nat}  :
  xrun k_X9_readAll 2 C Q [14, 18, 23, 42, 47, 51] K 2 14 [some (.ref 66)] [] (xS I L z) b =
  C 231 [.ref 66] (xS I L z) (fun r τ => K 18 [some (.ref 66)] (r.toList ++ []) τ b) := rfl
set_option maxRecDepth 100000 in
theorem b_X9_readAll_18 {C : xC} {Q : xQ} {K : xK} {I : xI} {L : xL} {z : Bool × Bool × Nat} {b : Nat × Nat} {s0 : Int32} :
  xrun k_X9_readAll 2 C Q [14, 18, 23, 42, 47, 51] K 3 18 [some (.ref 66)] [.int s0] (xS I L z) b =
  (if s0 = 0 then Q (some (.int 0)) (xS I L z) else K 23 [some (.ref 66)] [] (xS I L z) b) := rfl
set_option maxRecDepth 100000 in
theorem b_X9_readAll_23 {C : xC} {Q : xQ} {K : xK} {I : xI} {L : xL} {z : Bool × Bool × Nat} {b : Nat × Nat}  :
  xrun k_X9_readAll 2 C Q [14, 18, 23, 42, 47, 51] K 9 23 [some (.ref 66)] [] (xS I L z) b =
  (if (I 66 24) = 0 then Q (some (.int 1)) (xS I L z) else (if (I 66 24) = 3 then C 224 [.ref 66] (xS I L z) (fun r τ => K 47 [some (.ref 66)] (r.toList ++ []) τ b) else C 225 [.ref 66] (xS I L z) (fun r τ => K 42 [some (.ref 66)] (r.toList ++ []) τ b))) := rfl
set_option maxRecDepth 100000 in
theorem b_X9_readAll_42 {C : xC} {Q : xQ} {K : xK} {I : xI} {L : xL} {z : Bool × Bool × Nat} {b : Nat × Nat} {s0 : Int32} :
  xrun k_X9_readAll 2 C Q [14, 18, 23, 42, 47, 51] K 1 42 [some (.ref 66)] [.int s0] (xS I L z) b =
  (bif xbool s0 then Q (some (.int s0)) (xS I L z) else False) := rfl
set_option maxRecDepth 100000 in
theorem b_X9_readAll_47 {C : xC} {Q : xQ} {K : xK} {I : xI} {L : xL} {z : Bool × Bool × Nat} {b : Nat × Nat}  :
  xrun k_X9_readAll 2 C Q [14, 18, 23, 42, 47, 51] K 2 47 [some (.ref 66)] [] (xS I L z) b =
  C 231 [.ref 66] (xS I L z) (fun r τ => K 51 [some (.ref 66)] (r.toList ++ []) τ b) := rfl
set_option maxRecDepth 100000 in
theorem b_X9_readAll_51 {C : xC} {Q : xQ} {K : xK} {I : xI} {L : xL} {z : Bool × Bool × Nat} {b : Nat × Nat} {s0 : Int32} :
  xrun k_X9_readAll 2 C Q [14, 18, 23, 42, 47, 51] K 8 51 [some (.ref 66)] [.int s0] (xS I L z) b =
  (if s0 = 0 then Q (some (.int 0)) (xS I L z) else K 23 [some (.ref 66)] [] (xS (xw I 66 30 ((I 66 30) + 1)) L z) b) := rfl
set_option maxRecDepth 100000 in
theorem b_X9_seekWorlds_0 {C : xC} {Q : xQ} {K : xK} {I : xI} {L : xL} {z : Bool × Bool × Nat} {b : Nat × Nat} {a1 : Int32} :
  xrun k_X9_seekWorlds 0 C Q [12, 15, 54] K 6 0 [some (.ref 66), some (.int a1), none] [] (xS I L z) b =
  (if a1 = (I 66 9) then C 237 [.ref 66] (xS I L z) (fun r τ => K 12 [some (.ref 66), some (.int a1), none] (r.toList ++ []) τ b) else K 15 [some (.ref 66), some (.int a1), some (.int 0)] [] (xS I L z) b) := rfl
set_option maxRecDepth 100000 in
theorem b_X9_seekWorlds_12 {C : xC} {Q : xQ} {K : xK} {I : xI} {L : xL} {z : Bool × Bool × Nat} {b : Nat × Nat} {a1 : Int32} :
  xrun k_X9_seekWorlds 0 C Q [12, 15, 54] K 1 12 [some (.ref 66), some (.int a1), none] [] (xS I L z) b =
  Q none (xS I L z) := rfl
set_option maxRecDepth 100000 in
theorem b_X9_seekWorlds_15 {C : xC} {Q : xQ} {K : xK} {I : xI} {L : xL} {z : Bool × Bool × Nat} {b : Nat × Nat} {a1 : Int32} {a2 : Int32} :
  xrun k_X9_seekWorlds 0 C Q [12, 15, 54] K 26 15 [some (.ref 66), some (.int a1), some (.int a2)] [] (xS I L z) b =
  (if a2 < 6 then (if xin a2 (6) then (if 0 < (I 107 (Int32.toNatClampNeg a2)) then (if xin a2 (6) then (if xin a2 (6) then (if xin a1 (6) then C 236 [.ref 66, .int (a1 + 1)] (xS (xw (xw I 107 (Int32.toNatClampNeg a2) ((I 107 (Int32.toNatClampNeg a2)) - 1)) 106 (Int32.toNatClampNeg a1) a2) L z) (fun r τ => K 54 [some (.ref 66), some (.int a1), some (.int a2)] (r.toList ++ []) τ b) else False) else False) else False) else K 15 [some (.ref 66), some (.int a1), some (.int (a2 + 1))] [] (xS I L z) b) else False) else Q none (xS I L z)) := rfl
set_option maxRecDepth 100000 in
theorem b_X9_seekWorlds_54 {C : xC} {Q : xQ} {K : xK} {I : xI} {L : xL} {z : Bool × Bool × Nat} {b : Nat × Nat} {a1 : Int32} {a2 : Int32} :
  xrun k_X9_seekWorlds 0 C Q [12, 15, 54] K 10 54 [some (.ref 66), some (.int a1), some (.int a2)] [] (xS I L z) b =
  (if xin a2 (6) then (if xin a2 (6) then K 15 [some (.ref 66), some (.int a1), some (.int (a2 + 1))] [] (xS (xw I 107 (Int32.toNatClampNeg a2) ((I 107 (Int32.toNatClampNeg a2)) + 1)) L z) b else False) else False) := rfl
set_option maxRecDepth 100000 in
theorem b_X9_keepNow_0 {C : xC} {Q : xQ} {K : xK} {I : xI} {L : xL} {z : Bool × Bool × Nat} {b : Nat × Nat}  :
  xrun k_X9_keepNow 0 C Q [2] K 2 0 [some (.ref 66), none] [] (xS I L z) b =
  K 2 [some (.ref 66), some (.int 0)] [] (xS I L z) b := rfl
set_option maxRecDepth 100000 in
theorem b_X9_keepNow_2 {C : xC} {Q : xQ} {K : xK} {I : xI} {L : xL} {z : Bool × Bool × Nat} {b : Nat × Nat} {a1 : Int32} :
  xrun k_X9_keepNow 0 C Q [2] K 19 2 [some (.ref 66), some (.int a1)] [] (xS I L z) b =
  (if a1 < (I 66 9) then (if xin a1 (6) then (if xin (((I 66 32) * 6) + a1) (4320) then K 2 [some (.ref 66), some (.int (a1 + 1))] [] (xS (xw I 105 (Int32.toNatClampNeg (((I 66 32) * 6) + a1)) (I 106 (Int32.toNatClampNeg a1))) L z) b else False) else False) else Q none (xS (xw I 66 32 ((I 66 32) + 1)) L z)) := rfl
set_option maxRecDepth 100000 in
theorem b_X9_against_0 {C : xC} {Q : xQ} {K : xK} {I : xI} {L : xL} {z : Bool × Bool × Nat} {b : Nat × Nat} {a1 : Int32} :
  xrun k_X9_against 1 C Q [2, 22, 37] K 2 0 [some (.ref 66), some (.int a1), none] [] (xS I L z) b =
  K 2 [some (.ref 66), some (.int a1), some (.int 0)] [] (xS I L z) b := rfl
set_option maxRecDepth 100000 in
theorem b_X9_against_2 {C : xC} {Q : xQ} {K : xK} {I : xI} {L : xL} {z : Bool × Bool × Nat} {b : Nat × Nat} {a1 : Int32} {a2 : Int32} :
  xrun k_X9_against 1 C Q [2, 22, 37] K 12 2 [some (.ref 66), some (.int a1), some (.int a2)] [] (xS I L z) b =
  (if a2 < (I 66 9) then (if xin a2 (6) then C 235 [.ref 66, .int a1, .int a2] (xS I L z) (fun r τ => K 22 [some (.ref 66), some (.int a1), some (.int a2)] (r.toList ++ [.int (I 106 (Int32.toNatClampNeg a2))]) τ b) else False) else Q (some (.int 0)) (xS I L z)) := rfl
set_option maxRecDepth 100000 in
theorem b_X9_against_22 {C : xC} {Q : xQ} {K : xK} {I : xI} {L : xL} {z : Bool × Bool × Nat} {b : Nat × Nat} {a1 : Int32} {a2 : Int32} {s1 : Int32} {s0 : Int32} :
  xrun k_X9_against 1 C Q [2, 22, 37] K 9 22 [some (.ref 66), some (.int a1), some (.int a2)] [.int s0, .int s1] (xS I L z) b =
  (if s1 = s0 then K 2 [some (.ref 66), some (.int a1), some (.int (a2 + 1))] [] (xS I L z) b else (if xin a2 (6) then C 235 [.ref 66, .int a1, .int a2] (xS I L z) (fun r τ => K 37 [some (.ref 66), some (.int a1), some (.int a2)] (r.toList ++ [.int (I 106 (Int32.toNatClampNeg a2))]) τ b) else False)) := rfl
set_option maxRecDepth 100000 in
theorem b_X9_against_37 {C : xC} {Q : xQ} {K : xK} {I : xI} {L : xL} {z : Bool × Bool × Nat} {b : Nat × Nat} {a1 : Int32} {a2 : Int32} {s1 : Int32} {s0 : Int32} :
  xrun k_X9_against 1 C Q [2, 22, 37] K 2 37 [some (.ref 66), some (.int a1), some (.int a2)] [.int s0, .int s1] (xS I L z) b =
  Q (some (.int (s1 - s0))) (xS I L z) := rfl
set_option maxRecDepth 100000 in
theorem b_X9_turnNow_0 {C : xC} {Q : xQ} {K : xK} {I : xI} {L : xL} {z : Bool × Bool × Nat} {b : Nat × Nat} {a1 : Int32} :
  xrun k_X9_turnNow 0 C Q [2] K 2 0 [some (.ref 66), some (.int a1), none] [] (xS I L z) b =
  K 2 [some (.ref 66), some (.int a1), some (.int 0)] [] (xS I L z) b := rfl
set_option maxRecDepth 100000 in
theorem b_X9_turnNow_2 {C : xC} {Q : xQ} {K : xK} {I : xI} {L : xL} {z : Bool × Bool × Nat} {b : Nat × Nat} {a1 : Int32} {a2 : Int32} :
  xrun k_X9_turnNow 0 C Q [2] K 19 2 [some (.ref 66), some (.int a1), some (.int a2)] [] (xS I L z) b =
  (if a2 < (I 66 9) then (if (I 66 9) = 0 then False else (if xin a2 (6) then (if xin ((a2 + a1) - (a2 + a1) / (I 66 9) * (I 66 9)) (6) then K 2 [some (.ref 66), some (.int a1), some (.int (a2 + 1))] [] (xS (xw I 106 (Int32.toNatClampNeg ((a2 + a1) - (a2 + a1) / (I 66 9) * (I 66 9))) (I 83 (Int32.toNatClampNeg a2))) L z) b else False) else False)) else Q none (xS I L z)) := rfl
set_option maxRecDepth 100000 in
theorem b_X9_putNow_0 {C : xC} {Q : xQ} {K : xK} {I : xI} {L : xL} {z : Bool × Bool × Nat} {b : Nat × Nat}  :
  xrun k_X9_putNow 0 C Q [2, 15, 37, 51, 82] K 2 0 [some (.ref 66), none, none] [] (xS I L z) b =
  K 2 [some (.ref 66), some (.int 0), none] [] (xS I L z) b := rfl
set_option maxRecDepth 100000 in
theorem b_X9_putNow_2 {C : xC} {Q : xQ} {K : xK} {I : xI} {L : xL} {z : Bool × Bool × Nat} {b : Nat × Nat} {a1 : Int32} :
  xrun k_X9_putNow 0 C Q [2, 15, 37, 51, 82] K 15 2 [some (.ref 66), some (.int a1), none] [] (xS I L z) b =
  (if a1 < (I 66 32) then C 238 [.ref 66, .int a1] (xS I L z) (fun r τ => K 15 [some (.ref 66), some (.int a1), none] (r.toList ++ []) τ b) else (if a1 < (I 66 32) then C 238 [.ref 66, .int a1] (xS I L z) (fun r τ => K 37 [some (.ref 66), some (.int a1), none] (r.toList ++ []) τ b) else K 51 [some (.ref 66), some (.int a1), some (.int (((I 66 32) * 6) - 1))] [] (xS I L z) b)) := rfl
set_option maxRecDepth 100000 in
theorem b_X9_putNow_15 {C : xC} {Q : xQ} {K : xK} {I : xI} {L : xL} {z : Bool × Bool × Nat} {b : Nat × Nat} {a1 : Int32} {s0 : Int32} :
  xrun k_X9_putNow 0 C Q [2, 15, 37, 51, 82] K 12 15 [some (.ref 66), some (.int a1), none] [.int s0] (xS I L z) b =
  (if 0 < s0 then K 2 [some (.ref 66), some (.int (a1 + 1)), none] [] (xS I L z) b else (if a1 < (I 66 32) then C 238 [.ref 66, .int a1] (xS I L z) (fun r τ => K 37 [some (.ref 66), some (.int a1), none] (r.toList ++ []) τ b) else K 51 [some (.ref 66), some (.int a1), some (.int (((I 66 32) * 6) - 1))] [] (xS I L z) b)) := rfl
set_option maxRecDepth 100000 in
theorem b_X9_putNow_37 {C : xC} {Q : xQ} {K : xK} {I : xI} {L : xL} {z : Bool × Bool × Nat} {b : Nat × Nat} {a1 : Int32} {s0 : Int32} :
  xrun k_X9_putNow 0 C Q [2, 15, 37, 51, 82] K 8 37 [some (.ref 66), some (.int a1), none] [.int s0] (xS I L z) b =
  (if s0 = 0 then Q none (xS I L z) else K 51 [some (.ref 66), some (.int a1), some (.int (((I 66 32) * 6) - 1))] [] (xS I L z) b) := rfl
set_option maxRecDepth 100000 in
theorem b_X9_putNow_51 {C : xC} {Q : xQ} {K : xK} {I : xI} {L : xL} {z : Bool × Bool × Nat} {b : Nat × Nat} {a1 : Int32} {a2 : Int32} :
  xrun k_X9_putNow 0 C Q [2, 15, 37, 51, 82] K 17 51 [some (.ref 66), some (.int a1), some (.int a2)] [] (xS I L z) b =
  (if a2 < (a1 * 6) then K 82 [some (.ref 66), some (.int a1), some (.int 0)] [] (xS I L z) b else (if xin a2 (4320) then (if xin (a2 + 6) (4320) then K 51 [some (.ref 66), some (.int a1), some (.int (a2 + (-1 : Int32)))] [] (xS (xw I 105 (Int32.toNatClampNeg (a2 + 6)) (I 105 (Int32.toNatClampNeg a2))) L z) b else False) else False)) := rfl
set_option maxRecDepth 100000 in
theorem b_X9_putNow_82 {C : xC} {Q : xQ} {K : xK} {I : xI} {L : xL} {z : Bool × Bool × Nat} {b : Nat × Nat} {a1 : Int32} {a2 : Int32} :
  xrun k_X9_putNow 0 C Q [2, 15, 37, 51, 82] K 18 82 [some (.ref 66), some (.int a1), some (.int a2)] [] (xS I L z) b =
  (if a2 < (I 66 9) then (if xin a2 (6) then (if xin ((a1 * 6) + a2) (4320) then K 82 [some (.ref 66), some (.int a1), some (.int (a2 + 1))] [] (xS (xw I 105 (Int32.toNatClampNeg ((a1 * 6) + a2)) (I 106 (Int32.toNatClampNeg a2))) L z) b else False) else False) else Q none (xS (xw I 66 32 ((I 66 32) + 1)) L z)) := rfl
set_option maxRecDepth 100000 in
theorem b_X9_findWorlds_0 {C : xC} {Q : xQ} {K : xK} {I : xI} {L : xL} {z : Bool × Bool × Nat} {b : Nat × Nat}  :
  xrun k_X9_findWorlds 0 C Q [15, 36, 70, 73, 98, 102] K 9 0 [some (.ref 66), none] [] (xS I L z) b =
  (if ((xw I 66 32 0) 66 10) = 2 then K 15 [some (.ref 66), some (.int 0)] [] (xS (xw I 66 32 0) L z) b else K 73 [some (.ref 66), some (.int 0)] [] (xS (xw I 66 32 0) L z) b) := rfl
set_option maxRecDepth 100000 in
theorem b_X9_findWorlds_15 {C : xC} {Q : xQ} {K : xK} {I : xI} {L : xL} {z : Bool × Bool × Nat} {b : Nat × Nat} {a1 : Int32} :
  xrun k_X9_findWorlds 0 C Q [15, 36, 70, 73, 98, 102] K 10 15 [some (.ref 66), some (.int a1)] [] (xS I L z) b =
  (if a1 < 6 then (if xin a1 (6) then K 15 [some (.ref 66), some (.int (a1 + 1))] [] (xS (xw I 107 (Int32.toNatClampNeg a1) 0) L z) b else False) else K 36 [some (.ref 66), some (.int 0)] [] (xS I L z) b) := rfl
set_option maxRecDepth 100000 in
theorem b_X9_findWorlds_73 {C : xC} {Q : xQ} {K : xK} {I : xI} {L : xL} {z : Bool × Bool × Nat} {b : Nat × Nat} {a1 : Int32} :
  xrun k_X9_findWorlds 0 C Q [15, 36, 70, 73, 98, 102] K 12 73 [some (.ref 66), some (.int a1)] [] (xS I L z) b =
  (if (I 66 10) = 1 then (if a1 < (I 66 9) then C 239 [.ref 66, .int a1] (xS I L z) (fun r τ => K 98 [some (.ref 66), some (.int a1)] (r.toList ++ []) τ b) else Q none (xS I L z)) else (if a1 < 1 then C 239 [.ref 66, .int a1] (xS I L z) (fun r τ => K 98 [some (.ref 66), some (.int a1)] (r.toList ++ []) τ b) else Q none (xS I L z))) := rfl
set_option maxRecDepth 100000 in
theorem b_X9_findWorlds_36 {C : xC} {Q : xQ} {K : xK} {I : xI} {L : xL} {z : Bool × Bool × Nat} {b : Nat × Nat} {a1 : Int32} :
  xrun k_X9_findWorlds 0 C Q [15, 36, 70, 73, 98, 102] K 17 36 [some (.ref 66), some (.int a1)] [] (xS I L z) b =
  (if a1 < (I 66 9) then (if xin a1 (6) then (if xin (I 83 (Int32.toNatClampNeg a1)) (6) then (if xin (I 83 (Int32.toNatClampNeg a1)) (6) then K 36 [some (.ref 66), some (.int (a1 + 1))] [] (xS (xw I 107 (Int32.toNatClampNeg (I 83 (Int32.toNatClampNeg a1))) ((I 107 (Int32.toNatClampNeg (I 83 (Int32.toNatClampNeg a1)))) + 1)) L z) b else False) else False) else False) else C 236 [.ref 66, .int 0] (xS I L z) (fun r τ => K 70 [some (.ref 66), some (.int a1)] (r.toList ++ []) τ b)) := rfl
set_option maxRecDepth 100000 in
theorem b_X9_findWorlds_98 {C : xC} {Q : xQ} {K : xK} {I : xI} {L : xL} {z : Bool × Bool × Nat} {b : Nat × Nat} {a1 : Int32} :
  xrun k_X9_findWorlds 0 C Q [15, 36, 70, 73, 98, 102] K 2 98 [some (.ref 66), some (.int a1)] [] (xS I L z) b =
  C 240 [.ref 66] (xS I L z) (fun r τ => K 102 [some (.ref 66), some (.int a1)] (r.toList ++ []) τ b) := rfl
set_option maxRecDepth 100000 in
theorem b_X9_findWorlds_70 {C : xC} {Q : xQ} {K : xK} {I : xI} {L : xL} {z : Bool × Bool × Nat} {b : Nat × Nat} {a1 : Int32} :
  xrun k_X9_findWorlds 0 C Q [15, 36, 70, 73, 98, 102] K 1 70 [some (.ref 66), some (.int a1)] [] (xS I L z) b =
  Q none (xS I L z) := rfl
set_option maxRecDepth 100000 in
theorem b_X9_findWorlds_102 {C : xC} {Q : xQ} {K : xK} {I : xI} {L : xL} {z : Bool × Bool × Nat} {b : Nat × Nat} {a1 : Int32} :
  xrun k_X9_findWorlds 0 C Q [15, 36, 70, 73, 98, 102] K 2 102 [some (.ref 66), some (.int a1)] [] (xS I L z) b =
  K 73 [some (.ref 66), some (.int (a1 + 1))] [] (xS I L z) b := rfl
set_option maxRecDepth 100000 in
theorem b_X9_hasSigns_0 {C : xC} {Q : xQ} {K : xK} {I : xI} {L : xL} {z : Bool × Bool × Nat} {b : Nat × Nat} {a1 : Int32} :
  xrun k_X9_hasSigns 2 C Q [2, 12, 44] K 2 0 [some (.ref 66), some (.int a1), none, none] [] (xS I L z) b =
  K 2 [some (.ref 66), some (.int a1), some (.int 0), none] [] (xS I L z) b := rfl
set_option maxRecDepth 100000 in
theorem b_X9_hasSigns_2 {C : xC} {Q : xQ} {K : xK} {I : xI} {L : xL} {z : Bool × Bool × Nat} {b : Nat × Nat} {a1 : Int32} {a2 : Int32} :
  xrun k_X9_hasSigns 2 C Q [2, 12, 44] K 6 2 [some (.ref 66), some (.int a1), some (.int a2), none] [] (xS I L z) b =
  (if a2 < (I 66 9) then K 12 [some (.ref 66), some (.int a1), some (.int a2), some (.int 0)] [] (xS I L z) b else Q (some (.int 1)) (xS I L z)) := rfl
set_option maxRecDepth 100000 in
theorem b_X9_hasSigns_12 {C : xC} {Q : xQ} {K : xK} {I : xI} {L : xL} {z : Bool × Bool × Nat} {b : Nat × Nat} {a1 : Int32} {a2 : Int32} {a3 : Int32} :
  xrun k_X9_hasSigns 2 C Q [2, 12, 44] K 22 12 [some (.ref 66), some (.int a1), some (.int a2), some (.int a3)] [] (xS I L z) b =
  (if a3 < 4 then (if xin a2 (6) then (bif xisi (xS I L z) (94 + 1 + Int32.toNatClampNeg a2) then (if xin a3 (xlen z.2.2 (94 + 1 + Int32.toNatClampNeg a2)) then (if (I (94 + 1 + Int32.toNatClampNeg a2) (Int32.toNatClampNeg a3)) = (-1 : Int32) then K 12 [some (.ref 66), some (.int a1), some (.int a2), some (.int (a3 + 1))] [] (xS I L z) b else (if xin a2 (6) then (bif xisi (xS I L z) (94 + 1 + Int32.toNatClampNeg a2) then (if xin a3 (xlen z.2.2 (94 + 1 + Int32.toNatClampNeg a2)) then C 242 [.ref 66, .int a1, .int a2, .int a3] (xS I L z) (fun r τ => K 44 [some (.ref 66), some (.int a1), some (.int a2), some (.int a3)] (r.toList ++ [.int (I (94 + 1 + Int32.toNatClampNeg a2) (Int32.toNatClampNeg a3))]) τ b) else False) else False) else False)) else False) else False) else False) else K 2 [some (.ref 66), some (.int a1), some (.int (a2 + 1)), some (.int a3)] [] (xS I L z) b) := rfl
set_option maxRecDepth 100000 in
theorem b_X9_hasSigns_44 {C : xC} {Q : xQ} {K : xK} {I : xI} {L : xL} {z : Bool × Bool × Nat} {b : Nat × Nat} {a1 : Int32} {a2 : Int32} {a3 : Int32} {s1 : Int32} {s0 : Int32} :
  xrun k_X9_hasSigns 2 C Q [2, 12, 44] K 3 44 [some (.ref 66), some (.int a1), some (.int a2), some (.int a3)] [.int s0, .int s1] (xS I L z) b =
  (if s1 = s0 then K 12 [some (.ref 66), some (.int a1), some (.int a2), some (.int (a3 + 1))] [] (xS I L z) b else Q (some (.int 0)) (xS I L z)) := rfl
set_option maxRecDepth 100000 in
theorem b_X9_findPossible_0 {C : xC} {Q : xQ} {K : xK} {I : xI} {L : xL} {z : Bool × Bool × Nat} {b : Nat × Nat}  :
  xrun k_X9_findPossible 0 C Q [4, 11, 24] K 2 0 [some (.ref 66), none] [] (xS I L z) b =
  C 241 [.ref 66] (xS I L z) (fun r τ => K 4 [some (.ref 66), none] (r.toList ++ []) τ b) := rfl
set_option maxRecDepth 100000 in
theorem b_X9_findPossible_4 {C : xC} {Q : xQ} {K : xK} {I : xI} {L : xL} {z : Bool × Bool × Nat} {b : Nat × Nat}  :
  xrun k_X9_findPossible 0 C Q [4, 11, 24] K 5 4 [some (.ref 66), none] [] (xS I L z) b =
  K 11 [some (.ref 66), some (.int 0)] [] (xS (xw I 66 36 0) L z) b := rfl
set_option maxRecDepth 100000 in
theorem b_X9_findPossible_11 {C : xC} {Q : xQ} {K : xK} {I : xI} {L : xL} {z : Bool × Bool × Nat} {b : Nat × Nat} {a1 : Int32} :
  xrun k_X9_findPossible 0 C Q [4, 11, 24] K 7 11 [some (.ref 66), some (.int a1)] [] (xS I L z) b =
  (if a1 < (I 66 32) then C 243 [.ref 66, .int a1] (xS I L z) (fun r τ => K 24 [some (.ref 66), some (.int a1)] (r.toList ++ []) τ b) else Q none (xS I L z)) := rfl
set_option maxRecDepth 100000 in
theorem b_X9_findPossible_24 {C : xC} {Q : xQ} {K : xK} {I : xI} {L : xL} {z : Bool × Bool × Nat} {b : Nat × Nat} {a1 : Int32} {s0 : Int32} :
  xrun k_X9_findPossible 0 C Q [4, 11, 24] K 14 24 [some (.ref 66), some (.int a1)] [.int s0] (xS I L z) b =
  (if s0 = 0 then K 11 [some (.ref 66), some (.int (a1 + 1))] [] (xS I L z) b else (if xin (I 66 36) (720) then K 11 [some (.ref 66), some (.int (a1 + 1))] [] (xS (xw (xw I 66 36 ((I 66 36) + 1)) 108 (Int32.toNatClampNeg (I 66 36)) a1) L z) b else False)) := rfl
set_option maxRecDepth 100000 in
theorem b_X9_worlds_0 {C : xC} {Q : xQ} {K : xK} {I : xI} {L : xL} {z : Bool × Bool × Nat} {b : Nat × Nat} {a1 : Int32} :
  xrun k_X9_worlds 1 C Q [7, 16, 21] K 5 0 [some (.ref 66), some (.int a1)] [] (xS I L z) b =
  C 188 [.long (Int32.toInt64 a1), .long (Int64.ofNat 0), .long (Int64.ofNat 1)] (xS I L z) (fun r τ => K 7 [some (.ref 66), some (.int a1)] (r.toList ++ []) τ b) := rfl
set_option maxRecDepth 100000 in
theorem b_X9_worlds_7 {C : xC} {Q : xQ} {K : xK} {I : xI} {L : xL} {z : Bool × Bool × Nat} {b : Nat × Nat} {a1 : Int32} {s0 : Int32} :
  xrun k_X9_worlds 1 C Q [7, 16, 21] K 4 7 [some (.ref 66), some (.int a1)] [.int s0] (xS I L z) b =
  (if s0 = 0 then C 187 [.ref 66, .int (-2 : Int32)] (xS I L z) (fun r τ => K 16 [some (.ref 66), some (.int a1)] (r.toList ++ []) τ b) else C 244 [.ref 66] (xS I L z) (fun r τ => K 21 [some (.ref 66), some (.int a1)] (r.toList ++ []) τ b)) := rfl
set_option maxRecDepth 100000 in
theorem b_X9_worlds_16 {C : xC} {Q : xQ} {K : xK} {I : xI} {L : xL} {z : Bool × Bool × Nat} {b : Nat × Nat} {a1 : Int32} {s0 : Int32} :
  xrun k_X9_worlds 1 C Q [7, 16, 21] K 1 16 [some (.ref 66), some (.int a1)] [.int s0] (xS I L z) b =
  Q (some (.int s0)) (xS I L z) := rfl
set_option maxRecDepth 100000 in
theorem b_X9_worlds_21 {C : xC} {Q : xQ} {K : xK} {I : xI} {L : xL} {z : Bool × Bool × Nat} {b : Nat × Nat} {a1 : Int32} :
  xrun k_X9_worlds 1 C Q [7, 16, 21] K 6 21 [some (.ref 66), some (.int a1)] [] (xS I L z) b =
  (if a1 = 0 then Q (some (.int (I 66 32))) (xS I L z) else Q (some (.int (I 66 36))) (xS I L z)) := rfl
set_option maxRecDepth 100000 in
theorem b_X9_world_0 {C : xC} {Q : xQ} {K : xK} {I : xI} {L : xL} {z : Bool × Bool × Nat} {b : Nat × Nat} {a1 : Int32} {a2 : Int32} :
  xrun k_X9_world 1 C Q [10, 19, 24, 43, 52] K 6 0 [some (.ref 66), some (.int a1), some (.int a2)] [] (xS I L z) b =
  (if a1 < 0 then C 187 [.ref 66, .int (-2 : Int32)] (xS I L z) (fun r τ => K 19 [some (.ref 66), some (.int a1), some (.int a2)] (r.toList ++ []) τ b) else C 189 [.ref 66, .long (Int32.toInt64 a2)] (xS I L z) (fun r τ => K 10 [some (.ref 66), some (.int a1), some (.int a2)] (r.toList ++ []) τ b)) := rfl
set_option maxRecDepth 100000 in
theorem b_X9_world_10 {C : xC} {Q : xQ} {K : xK} {I : xI} {L : xL} {z : Bool × Bool × Nat} {b : Nat × Nat} {a1 : Int32} {a2 : Int32} {s0 : Int32} :
  xrun k_X9_world 1 C Q [10, 19, 24, 43, 52] K 4 10 [some (.ref 66), some (.int a1), some (.int a2)] [.int s0] (xS I L z) b =
  (if s0 = 0 then C 187 [.ref 66, .int (-2 : Int32)] (xS I L z) (fun r τ => K 19 [some (.ref 66), some (.int a1), some (.int a2)] (r.toList ++ []) τ b) else C 244 [.ref 66] (xS I L z) (fun r τ => K 24 [some (.ref 66), some (.int a1), some (.int a2)] (r.toList ++ []) τ b)) := rfl
set_option maxRecDepth 100000 in
theorem b_X9_world_19 {C : xC} {Q : xQ} {K : xK} {I : xI} {L : xL} {z : Bool × Bool × Nat} {b : Nat × Nat} {a1 : Int32} {a2 : Int32} {s0 : Int32} :
  xrun k_X9_world 1 C Q [10, 19, 24, 43, 52] K 1 19 [some (.ref 66), some (.int a1), some (.int a2)] [.int s0] (xS I L z) b =
  Q (some (.int s0)) (xS I L z) := rfl
set_option maxRecDepth 100000 in
theorem b_X9_world_24 {C : xC} {Q : xQ} {K : xK} {I : xI} {L : xL} {z : Bool × Bool × Nat} {b : Nat × Nat} {a1 : Int32} {a2 : Int32} :
  xrun k_X9_world 1 C Q [10, 19, 24, 43, 52] K 11 24 [some (.ref 66), some (.int a1), some (.int a2)] [] (xS I L z) b =
  (if a1 < (I 66 36) then (if xin a1 (720) then C 235 [.ref 66, .int (I 108 (Int32.toNatClampNeg a1)), .int a2] (xS I L z) (fun r τ => K 43 [some (.ref 66), some (.int a1), some (.int a2)] (r.toList ++ []) τ b) else False) else C 187 [.ref 66, .int (-5 : Int32)] (xS I L z) (fun r τ => K 52 [some (.ref 66), some (.int a1), some (.int a2)] (r.toList ++ []) τ b)) := rfl
set_option maxRecDepth 100000 in
theorem b_X9_world_43 {C : xC} {Q : xQ} {K : xK} {I : xI} {L : xL} {z : Bool × Bool × Nat} {b : Nat × Nat} {a1 : Int32} {a2 : Int32} {s0 : Int32} :
  xrun k_X9_world 1 C Q [10, 19, 24, 43, 52] K 1 43 [some (.ref 66), some (.int a1), some (.int a2)] [.int s0] (xS I L z) b =
  K 52 [some (.ref 66), some (.int a1), some (.int a2)] [.int s0] (xS I L z) b := rfl
set_option maxRecDepth 100000 in
theorem b_X9_world_52 {C : xC} {Q : xQ} {K : xK} {I : xI} {L : xL} {z : Bool × Bool × Nat} {b : Nat × Nat} {a1 : Int32} {a2 : Int32} {s0 : Int32} :
  xrun k_X9_world 1 C Q [10, 19, 24, 43, 52] K 1 52 [some (.ref 66), some (.int a1), some (.int a2)] [.int s0] (xS I L z) b =
  Q (some (.int s0)) (xS I L z) := rfl
set_option maxRecDepth 100000 in
theorem b_X9_sortsAt_0 {C : xC} {Q : xQ} {K : xK} {I : xI} {L : xL} {z : Bool × Bool × Nat} {b : Nat × Nat} {a1 : Int32} :
  xrun k_X9_sortsAt 1 C Q [4, 25] K 4 0 [some (.ref 66), some (.int a1), none, none] [] (xS I L z) b =
  K 4 [some (.ref 66), some (.int a1), some (.int 0), some (.int 0)] [] (xS I L z) b := rfl
set_option maxRecDepth 100000 in
theorem b_X9_sortsAt_4 {C : xC} {Q : xQ} {K : xK} {I : xI} {L : xL} {z : Bool × Bool × Nat} {b : Nat × Nat} {a1 : Int32} {a2 : Int32} {a3 : Int32} :
  xrun k_X9_sortsAt 1 C Q [4, 25] K 13 4 [some (.ref 66), some (.int a1), some (.int a2), some (.int a3)] [] (xS I L z) b =
  (if a3 < (I 66 36) then (if xin a3 (720) then C 235 [.ref 66, .int (I 108 (Int32.toNatClampNeg a3)), .int a1] (xS I L z) (fun r τ => K 25 [some (.ref 66), some (.int a1), some (.int a2), some (.int a3)] (r.toList ++ [.int 1, .int a2]) τ b) else False) else Q (some (.int a2)) (xS I L z)) := rfl
set_option maxRecDepth 100000 in
theorem b_X9_sortsAt_25 {C : xC} {Q : xQ} {K : xK} {I : xI} {L : xL} {z : Bool × Bool × Nat} {b : Nat × Nat} {a1 : Int32} {a2 : Int32} {a3 : Int32} {s2 : Int32} {s1 : Int32} {s0 : Int32} :
  xrun k_X9_sortsAt 1 C Q [4, 25] K 5 25 [some (.ref 66), some (.int a1), some (.int a2), some (.int a3)] [.int s0, .int s1, .int s2] (xS I L z) b =
  K 4 [some (.ref 66), some (.int a1), some (.int (s2 ||| (s1 <<< (s0 &&& 31)))), some (.int (a3 + 1))] [] (xS I L z) b := rfl
set_option maxRecDepth 100000 in
theorem b_X9_sorts_0 {C : xC} {Q : xQ} {K : xK} {I : xI} {L : xL} {z : Bool × Bool × Nat} {b : Nat × Nat} {a1 : Int32} :
  xrun k_X9_sorts 1 C Q [6, 15, 20, 25] K 4 0 [some (.ref 66), some (.int a1)] [] (xS I L z) b =
  C 189 [.ref 66, .long (Int32.toInt64 a1)] (xS I L z) (fun r τ => K 6 [some (.ref 66), some (.int a1)] (r.toList ++ []) τ b) := rfl
set_option maxRecDepth 100000 in
theorem b_X9_sorts_6 {C : xC} {Q : xQ} {K : xK} {I : xI} {L : xL} {z : Bool × Bool × Nat} {b : Nat × Nat} {a1 : Int32} {s0 : Int32} :
  xrun k_X9_sorts 1 C Q [6, 15, 20, 25] K 4 6 [some (.ref 66), some (.int a1)] [.int s0] (xS I L z) b =
  (if s0 = 0 then C 187 [.ref 66, .int (-2 : Int32)] (xS I L z) (fun r τ => K 15 [some (.ref 66), some (.int a1)] (r.toList ++ []) τ b) else C 244 [.ref 66] (xS I L z) (fun r τ => K 20 [some (.ref 66), some (.int a1)] (r.toList ++ []) τ b)) := rfl
set_option maxRecDepth 100000 in
theorem b_X9_sorts_15 {C : xC} {Q : xQ} {K : xK} {I : xI} {L : xL} {z : Bool × Bool × Nat} {b : Nat × Nat} {a1 : Int32} {s0 : Int32} :
  xrun k_X9_sorts 1 C Q [6, 15, 20, 25] K 1 15 [some (.ref 66), some (.int a1)] [.int s0] (xS I L z) b =
  Q (some (.int s0)) (xS I L z) := rfl
set_option maxRecDepth 100000 in
theorem b_X9_sorts_20 {C : xC} {Q : xQ} {K : xK} {I : xI} {L : xL} {z : Bool × Bool × Nat} {b : Nat × Nat} {a1 : Int32} :
  xrun k_X9_sorts 1 C Q [6, 15, 20, 25] K 3 20 [some (.ref 66), some (.int a1)] [] (xS I L z) b =
  C 247 [.ref 66, .int a1] (xS I L z) (fun r τ => K 25 [some (.ref 66), some (.int a1)] (r.toList ++ []) τ b) := rfl
set_option maxRecDepth 100000 in
theorem b_X9_sorts_25 {C : xC} {Q : xQ} {K : xK} {I : xI} {L : xL} {z : Bool × Bool × Nat} {b : Nat × Nat} {a1 : Int32} {s0 : Int32} :
  xrun k_X9_sorts 1 C Q [6, 15, 20, 25] K 1 25 [some (.ref 66), some (.int a1)] [.int s0] (xS I L z) b =
  Q (some (.int s0)) (xS I L z) := rfl
set_option maxRecDepth 100000 in
theorem b_X9_likely_0 {C : xC} {Q : xQ} {K : xK} {I : xI} {L : xL} {z : Bool × Bool × Nat} {b : Nat × Nat} {a1 : Int32} {a2 : Int32} :
  xrun k_X9_likely 1 C Q [6, 16, 25, 30, 43, 52, 65, 88] K 4 0 [some (.ref 66), some (.int a1), some (.int a2), none, none, none, none, none] [] (xS I L z) b =
  C 189 [.ref 66, .long (Int32.toInt64 a1)] (xS I L z) (fun r τ => K 6 [some (.ref 66), some (.int a1), some (.int a2), none, none, none, none, none] (r.toList ++ []) τ b) := rfl
set_option maxRecDepth 100000 in
theorem b_X9_likely_6 {C : xC} {Q : xQ} {K : xK} {I : xI} {L : xL} {z : Bool × Bool × Nat} {b : Nat × Nat} {a1 : Int32} {a2 : Int32} {s0 : Int32} :
  xrun k_X9_likely 1 C Q [6, 16, 25, 30, 43, 52, 65, 88] K 6 6 [some (.ref 66), some (.int a1), some (.int a2), none, none, none, none, none] [.int s0] (xS I L z) b =
  (if s0 = 0 then C 187 [.ref 66, .int (-2 : Int32)] (xS I L z) (fun r τ => K 25 [some (.ref 66), some (.int a1), some (.int a2), none, none, none, none, none] (r.toList ++ []) τ b) else C 188 [.long (Int32.toInt64 a2), .long (Int64.ofNat 0), .long (Int64.ofNat 1)] (xS I L z) (fun r τ => K 16 [some (.ref 66), some (.int a1), some (.int a2), none, none, none, none, none] (r.toList ++ []) τ b)) := rfl
set_option maxRecDepth 100000 in
theorem b_X9_likely_16 {C : xC} {Q : xQ} {K : xK} {I : xI} {L : xL} {z : Bool × Bool × Nat} {b : Nat × Nat} {a1 : Int32} {a2 : Int32} {s0 : Int32} :
  xrun k_X9_likely 1 C Q [6, 16, 25, 30, 43, 52, 65, 88] K 4 16 [some (.ref 66), some (.int a1), some (.int a2), none, none, none, none, none] [.int s0] (xS I L z) b =
  (if s0 = 0 then C 187 [.ref 66, .int (-2 : Int32)] (xS I L z) (fun r τ => K 25 [some (.ref 66), some (.int a1), some (.int a2), none, none, none, none, none] (r.toList ++ []) τ b) else C 244 [.ref 66] (xS I L z) (fun r τ => K 30 [some (.ref 66), some (.int a1), some (.int a2), none, none, none, none, none] (r.toList ++ []) τ b)) := rfl
set_option maxRecDepth 100000 in
theorem b_X9_likely_25 {C : xC} {Q : xQ} {K : xK} {I : xI} {L : xL} {z : Bool × Bool × Nat} {b : Nat × Nat} {a1 : Int32} {a2 : Int32} {s0 : Int32} :
  xrun k_X9_likely 1 C Q [6, 16, 25, 30, 43, 52, 65, 88] K 1 25 [some (.ref 66), some (.int a1), some (.int a2), none, none, none, none, none] [.int s0] (xS I L z) b =
  Q (some (.int s0)) (xS I L z) := rfl
set_option maxRecDepth 100000 in
theorem b_X9_likely_30 {C : xC} {Q : xQ} {K : xK} {I : xI} {L : xL} {z : Bool × Bool × Nat} {b : Nat × Nat} {a1 : Int32} {a2 : Int32} :
  xrun k_X9_likely 1 C Q [6, 16, 25, 30, 43, 52, 65, 88] K 9 30 [some (.ref 66), some (.int a1), some (.int a2), none, none, none, none, none] [] (xS I L z) b =
  (if (I 66 36) = 0 then C 187 [.ref 66, .int (-5 : Int32)] (xS I L z) (fun r τ => K 43 [some (.ref 66), some (.int a1), some (.int a2), none, none, none, none, none] (r.toList ++ []) τ b) else K 52 [some (.ref 66), some (.int a1), some (.int a2), some (.int 0), some (.int 0), some (.int 0), none, none] [] (xS I L z) b) := rfl
set_option maxRecDepth 100000 in
theorem b_X9_likely_43 {C : xC} {Q : xQ} {K : xK} {I : xI} {L : xL} {z : Bool × Bool × Nat} {b : Nat × Nat} {a1 : Int32} {a2 : Int32} {s0 : Int32} :
  xrun k_X9_likely 1 C Q [6, 16, 25, 30, 43, 52, 65, 88] K 1 43 [some (.ref 66), some (.int a1), some (.int a2), none, none, none, none, none] [.int s0] (xS I L z) b =
  Q (some (.int s0)) (xS I L z) := rfl
set_option maxRecDepth 100000 in
theorem b_X9_likely_52 {C : xC} {Q : xQ} {K : xK} {I : xI} {L : xL} {z : Bool × Bool × Nat} {b : Nat × Nat} {a1 : Int32} {a2 : Int32} {a3 : Int32} {a4 : Int32} {a5 : Int32} :
  xrun k_X9_likely 1 C Q [6, 16, 25, 30, 43, 52, 65, 88] K 12 52 [some (.ref 66), some (.int a1), some (.int a2), some (.int a3), some (.int a4), some (.int a5), none, none] [] (xS I L z) b =
  (if a5 < 6 then K 65 [some (.ref 66), some (.int a1), some (.int a2), some (.int a3), some (.int a4), some (.int a5), some (.int 0), some (.int 0)] [] (xS I L z) b else (if a2 = 0 then Q (some (.int a3)) (xS I L z) else (if (I 66 36) = 0 then False else Q (some (.int ((1000 * a4) / (I 66 36)))) (xS I L z)))) := rfl
set_option maxRecDepth 100000 in
theorem b_X9_likely_65 {C : xC} {Q : xQ} {K : xK} {I : xI} {L : xL} {z : Bool × Bool × Nat} {b : Nat × Nat} {a1 : Int32} {a2 : Int32} {a3 : Int32} {a4 : Int32} {a5 : Int32} {a6 : Int32} {a7 : Int32} :
  xrun k_X9_likely 1 C Q [6, 16, 25, 30, 43, 52, 65, 88] K 13 65 [some (.ref 66), some (.int a1), some (.int a2), some (.int a3), some (.int a4), some (.int a5), some (.int a6), some (.int a7)] [] (xS I L z) b =
  (if a7 < (I 66 36) then (if xin a7 (720) then C 235 [.ref 66, .int (I 108 (Int32.toNatClampNeg a7)), .int a1] (xS I L z) (fun r τ => K 88 [some (.ref 66), some (.int a1), some (.int a2), some (.int a3), some (.int a4), some (.int a5), some (.int a6), some (.int a7)] (r.toList ++ [.int a6]) τ b) else False) else (if a4 < a6 then K 52 [some (.ref 66), some (.int a1), some (.int a2), some (.int a5), some (.int a6), some (.int (a5 + 1)), some (.int a6), some (.int a7)] [] (xS I L z) b else K 52 [some (.ref 66), some (.int a1), some (.int a2), some (.int a3), some (.int a4), some (.int (a5 + 1)), some (.int a6), some (.int a7)] [] (xS I L z) b)) := rfl
set_option maxRecDepth 100000 in
theorem b_X9_likely_88 {C : xC} {Q : xQ} {K : xK} {I : xI} {L : xL} {z : Bool × Bool × Nat} {b : Nat × Nat} {a1 : Int32} {a2 : Int32} {a3 : Int32} {a4 : Int32} {a5 : Int32} {a6 : Int32} {a7 : Int32} {s1 : Int32} {s0 : Int32} :
  xrun k_X9_likely 1 C Q [6, 16, 25, 30, 43, 52, 65, 88] K 8 88 [some (.ref 66), some (.int a1), some (.int a2), some (.int a3), some (.int a4), some (.int a5), some (.int a6), some (.int a7)] [.int s0, .int s1] (xS I L z) b =
  (if s0 = a5 then K 65 [some (.ref 66), some (.int a1), some (.int a2), some (.int a3), some (.int a4), some (.int a5), some (.int (s1 + 1)), some (.int (a7 + 1))] [] (xS I L z) b else K 65 [some (.ref 66), some (.int a1), some (.int a2), some (.int a3), some (.int a4), some (.int a5), some (.int (s1 + 0)), some (.int (a7 + 1))] [] (xS I L z) b) := rfl
set_option maxRecDepth 100000 in
theorem b_X9_isKnown_0 {C : xC} {Q : xQ} {K : xK} {I : xI} {L : xL} {z : Bool × Bool × Nat} {b : Nat × Nat} {a1 : Int32} :
  xrun k_X9_isKnown 2 C Q [5, 8] K 3 0 [some (.ref 66), some (.int a1)] [] (xS I L z) b =
  C 247 [.ref 66, .int a1] (xS I L z) (fun r τ => K 5 [some (.ref 66), some (.int a1)] (r.toList ++ []) τ b) := rfl
set_option maxRecDepth 100000 in
theorem b_X9_isKnown_5 {C : xC} {Q : xQ} {K : xK} {I : xI} {L : xL} {z : Bool × Bool × Nat} {b : Nat × Nat} {a1 : Int32} {s0 : Int32} :
  xrun k_X9_isKnown 2 C Q [5, 8] K 1 5 [some (.ref 66), some (.int a1)] [.int s0] (xS I L z) b =
  C 192 [.int s0] (xS I L z) (fun r τ => K 8 [some (.ref 66), some (.int a1)] (r.toList ++ []) τ b) := rfl
set_option maxRecDepth 100000 in
theorem b_X9_isKnown_8 {C : xC} {Q : xQ} {K : xK} {I : xI} {L : xL} {z : Bool × Bool × Nat} {b : Nat × Nat} {a1 : Int32} {s0 : Int32} :
  xrun k_X9_isKnown 2 C Q [5, 8] K 5 8 [some (.ref 66), some (.int a1)] [.int s0] (xS I L z) b =
  (if s0 < 2 then Q (some (.int 1)) (xS I L z) else Q (some (.int 0)) (xS I L z)) := rfl
set_option maxRecDepth 100000 in
theorem b_X9_known_0 {C : xC} {Q : xQ} {K : xK} {I : xI} {L : xL} {z : Bool × Bool × Nat} {b : Nat × Nat}  :
  xrun k_X9_known 1 C Q [4, 8, 22] K 2 0 [some (.ref 66), none, none] [] (xS I L z) b =
  C 244 [.ref 66] (xS I L z) (fun r τ => K 4 [some (.ref 66), none, none] (r.toList ++ []) τ b) := rfl
set_option maxRecDepth 100000 in
theorem b_X9_known_4 {C : xC} {Q : xQ} {K : xK} {I : xI} {L : xL} {z : Bool × Bool × Nat} {b : Nat × Nat}  :
  xrun k_X9_known 1 C Q [4, 8, 22] K 4 4 [some (.ref 66), none, none] [] (xS I L z) b =
  K 8 [some (.ref 66), some (.int 0), some (.int 0)] [] (xS I L z) b := rfl
set_option maxRecDepth 100000 in
theorem b_X9_known_8 {C : xC} {Q : xQ} {K : xK} {I : xI} {L : xL} {z : Bool × Bool × Nat} {b : Nat × Nat} {a1 : Int32} {a2 : Int32} :
  xrun k_X9_known 1 C Q [4, 8, 22] K 8 8 [some (.ref 66), some (.int a1), some (.int a2)] [] (xS I L z) b =
  (if a2 < (I 66 9) then C 250 [.ref 66, .int a2] (xS I L z) (fun r τ => K 22 [some (.ref 66), some (.int a1), some (.int a2)] (r.toList ++ [.int a1]) τ b) else Q (some (.int a1)) (xS I L z)) := rfl
set_option maxRecDepth 100000 in
theorem b_X9_known_22 {C : xC} {Q : xQ} {K : xK} {I : xI} {L : xL} {z : Bool × Bool × Nat} {b : Nat × Nat} {a1 : Int32} {a2 : Int32} {s1 : Int32} {s0 : Int32} :
  xrun k_X9_known 1 C Q [4, 8, 22] K 9 22 [some (.ref 66), some (.int a1), some (.int a2)] [.int s0, .int s1] (xS I L z) b =
  (if s0 = 0 then K 8 [some (.ref 66), some (.int (s1 ||| 0)), some (.int (a2 + 1))] [] (xS I L z) b else K 8 [some (.ref 66), some (.int (s1 ||| ((1 : Int32) <<< (a2 &&& 31)))), some (.int (a2 + 1))] [] (xS I L z) b) := rfl
set_option maxRecDepth 100000 in
theorem b_X9_splitOf_0 {C : xC} {Q : xQ} {K : xK} {I : xI} {L : xL} {z : Bool × Bool × Nat} {b : Nat × Nat} {a1 : Int32} {a2 : Int32} :
  xrun k_X9_splitOf 1 C Q [5, 29, 42] K 4 0 [some (.ref 66), some (.int a1), some (.int a2), none, none] [] (xS I L z) b =
  K 5 [some (.ref 66), some (.int a1), some (.int a2), some (.int 0), some (.int 0)] [] (xS I L z) b := rfl
set_option maxRecDepth 100000 in
theorem b_X9_splitOf_5 {C : xC} {Q : xQ} {K : xK} {I : xI} {L : xL} {z : Bool × Bool × Nat} {b : Nat × Nat} {a1 : Int32} {a2 : Int32} {a3 : Int32} {a4 : Int32} :
  xrun k_X9_splitOf 1 C Q [5, 29, 42] K 14 5 [some (.ref 66), some (.int a1), some (.int a2), some (.int a3), some (.int a4)] [] (xS I L z) b =
  (if a4 < (I 66 36) then (if xin a4 (720) then C 242 [.ref 66, .int (I 108 (Int32.toNatClampNeg a4)), .int a1, .int a2] (xS I L z) (fun r τ => K 29 [some (.ref 66), some (.int a1), some (.int a2), some (.int a3), some (.int a4)] (r.toList ++ [.int 1, .int a3]) τ b) else False) else C 192 [.int a3] (xS I L z) (fun r τ => K 42 [some (.ref 66), some (.int a1), some (.int a2), some (.int a3), some (.int a4)] (r.toList ++ []) τ b)) := rfl
set_option maxRecDepth 100000 in
theorem b_X9_splitOf_29 {C : xC} {Q : xQ} {K : xK} {I : xI} {L : xL} {z : Bool × Bool × Nat} {b : Nat × Nat} {a1 : Int32} {a2 : Int32} {a3 : Int32} {a4 : Int32} {s2 : Int32} {s1 : Int32} {s0 : Int32} :
  xrun k_X9_splitOf 1 C Q [5, 29, 42] K 5 29 [some (.ref 66), some (.int a1), some (.int a2), some (.int a3), some (.int a4)] [.int s0, .int s1, .int s2] (xS I L z) b =
  K 5 [some (.ref 66), some (.int a1), some (.int a2), some (.int (s2 ||| (s1 <<< (s0 &&& 31)))), some (.int (a4 + 1))] [] (xS I L z) b := rfl
set_option maxRecDepth 100000 in
theorem b_X9_splitOf_42 {C : xC} {Q : xQ} {K : xK} {I : xI} {L : xL} {z : Bool × Bool × Nat} {b : Nat × Nat} {a1 : Int32} {a2 : Int32} {a3 : Int32} {a4 : Int32} {s0 : Int32} :
  xrun k_X9_splitOf 1 C Q [5, 29, 42] K 1 42 [some (.ref 66), some (.int a1), some (.int a2), some (.int a3), some (.int a4)] [.int s0] (xS I L z) b =
  Q (some (.int s0)) (xS I L z) := rfl
set_option maxRecDepth 100000 in
theorem b_X9_worstOf_0 {C : xC} {Q : xQ} {K : xK} {I : xI} {L : xL} {z : Bool × Bool × Nat} {b : Nat × Nat} {a1 : Int32} {a2 : Int32} :
  xrun k_X9_worstOf 1 C Q [5, 18, 42] K 4 0 [some (.ref 66), some (.int a1), some (.int a2), none, none, none, none] [] (xS I L z) b =
  K 5 [some (.ref 66), some (.int a1), some (.int a2), some (.int 0), some (.int 0), none, none] [] (xS I L z) b := rfl
set_option maxRecDepth 100000 in
theorem b_X9_worstOf_5 {C : xC} {Q : xQ} {K : xK} {I : xI} {L : xL} {z : Bool × Bool × Nat} {b : Nat × Nat} {a1 : Int32} {a2 : Int32} {a3 : Int32} {a4 : Int32} :
  xrun k_X9_worstOf 1 C Q [5, 18, 42] K 7 5 [some (.ref 66), some (.int a1), some (.int a2), some (.int a3), some (.int a4), none, none] [] (xS I L z) b =
  (if a4 < 10 then K 18 [some (.ref 66), some (.int a1), some (.int a2), some (.int a3), some (.int a4), some (.int 0), some (.int 0)] [] (xS I L z) b else Q (some (.int a3)) (xS I L z)) := rfl
set_option maxRecDepth 100000 in
theorem b_X9_worstOf_18 {C : xC} {Q : xQ} {K : xK} {I : xI} {L : xL} {z : Bool × Bool × Nat} {b : Nat × Nat} {a1 : Int32} {a2 : Int32} {a3 : Int32} {a4 : Int32} {a5 : Int32} {a6 : Int32} :
  xrun k_X9_worstOf 1 C Q [5, 18, 42] K 13 18 [some (.ref 66), some (.int a1), some (.int a2), some (.int a3), some (.int a4), some (.int a5), some (.int a6)] [] (xS I L z) b =
  (if a6 < (I 66 36) then (if xin a6 (720) then C 242 [.ref 66, .int (I 108 (Int32.toNatClampNeg a6)), .int a1, .int a2] (xS I L z) (fun r τ => K 42 [some (.ref 66), some (.int a1), some (.int a2), some (.int a3), some (.int a4), some (.int a5), some (.int a6)] (r.toList ++ [.int a5]) τ b) else False) else (if a3 < a5 then K 5 [some (.ref 66), some (.int a1), some (.int a2), some (.int a5), some (.int (a4 + 1)), some (.int a5), some (.int a6)] [] (xS I L z) b else K 5 [some (.ref 66), some (.int a1), some (.int a2), some (.int a3), some (.int (a4 + 1)), some (.int a5), some (.int a6)] [] (xS I L z) b)) := rfl
set_option maxRecDepth 100000 in
theorem b_X9_worstOf_42 {C : xC} {Q : xQ} {K : xK} {I : xI} {L : xL} {z : Bool × Bool × Nat} {b : Nat × Nat} {a1 : Int32} {a2 : Int32} {a3 : Int32} {a4 : Int32} {a5 : Int32} {a6 : Int32} {s1 : Int32} {s0 : Int32} :
  xrun k_X9_worstOf 1 C Q [5, 18, 42] K 8 42 [some (.ref 66), some (.int a1), some (.int a2), some (.int a3), some (.int a4), some (.int a5), some (.int a6)] [.int s0, .int s1] (xS I L z) b =
  (if s0 = a4 then K 18 [some (.ref 66), some (.int a1), some (.int a2), some (.int a3), some (.int a4), some (.int (s1 + 1)), some (.int (a6 + 1))] [] (xS I L z) b else K 18 [some (.ref 66), some (.int a1), some (.int a2), some (.int a3), some (.int a4), some (.int (s1 + 0)), some (.int (a6 + 1))] [] (xS I L z) b) := rfl
set_option maxRecDepth 100000 in
theorem b_X9_split_0 {C : xC} {Q : xQ} {K : xK} {I : xI} {L : xL} {z : Bool × Bool × Nat} {b : Nat × Nat} {a1 : Int32} {a2 : Int32} {a3 : Int32} :
  xrun k_X9_split 1 C Q [6, 18, 28, 37, 42, 52, 61] K 4 0 [some (.ref 66), some (.int a1), some (.int a2), some (.int a3)] [] (xS I L z) b =
  C 189 [.ref 66, .long (Int32.toInt64 a1)] (xS I L z) (fun r τ => K 6 [some (.ref 66), some (.int a1), some (.int a2), some (.int a3)] (r.toList ++ []) τ b) := rfl
set_option maxRecDepth 100000 in
theorem b_X9_split_6 {C : xC} {Q : xQ} {K : xK} {I : xI} {L : xL} {z : Bool × Bool × Nat} {b : Nat × Nat} {a1 : Int32} {a2 : Int32} {a3 : Int32} {s0 : Int32} :
  xrun k_X9_split 1 C Q [6, 18, 28, 37, 42, 52, 61] K 6 6 [some (.ref 66), some (.int a1), some (.int a2), some (.int a3)] [.int s0] (xS I L z) b =
  (if s0 = 0 then C 187 [.ref 66, .int (-2 : Int32)] (xS I L z) (fun r τ => K 37 [some (.ref 66), some (.int a1), some (.int a2), some (.int a3)] (r.toList ++ []) τ b) else C 188 [.long (Int32.toInt64 a2), .long (Int64.ofNat 0), .long (Int64.ofNat 3)] (xS I L z) (fun r τ => K 18 [some (.ref 66), some (.int a1), some (.int a2), some (.int a3)] (r.toList ++ []) τ b)) := rfl
set_option maxRecDepth 100000 in
theorem b_X9_split_18 {C : xC} {Q : xQ} {K : xK} {I : xI} {L : xL} {z : Bool × Bool × Nat} {b : Nat × Nat} {a1 : Int32} {a2 : Int32} {a3 : Int32} {s0 : Int32} :
  xrun k_X9_split 1 C Q [6, 18, 28, 37, 42, 52, 61] K 6 18 [some (.ref 66), some (.int a1), some (.int a2), some (.int a3)] [.int s0] (xS I L z) b =
  (if s0 = 0 then C 187 [.ref 66, .int (-2 : Int32)] (xS I L z) (fun r τ => K 37 [some (.ref 66), some (.int a1), some (.int a2), some (.int a3)] (r.toList ++ []) τ b) else C 188 [.long (Int32.toInt64 a3), .long (Int64.ofNat 0), .long (Int64.ofNat 1)] (xS I L z) (fun r τ => K 28 [some (.ref 66), some (.int a1), some (.int a2), some (.int a3)] (r.toList ++ []) τ b)) := rfl
set_option maxRecDepth 100000 in
theorem b_X9_split_37 {C : xC} {Q : xQ} {K : xK} {I : xI} {L : xL} {z : Bool × Bool × Nat} {b : Nat × Nat} {a1 : Int32} {a2 : Int32} {a3 : Int32} {s0 : Int32} :
  xrun k_X9_split 1 C Q [6, 18, 28, 37, 42, 52, 61] K 1 37 [some (.ref 66), some (.int a1), some (.int a2), some (.int a3)] [.int s0] (xS I L z) b =
  Q (some (.int s0)) (xS I L z) := rfl
set_option maxRecDepth 100000 in
theorem b_X9_split_28 {C : xC} {Q : xQ} {K : xK} {I : xI} {L : xL} {z : Bool × Bool × Nat} {b : Nat × Nat} {a1 : Int32} {a2 : Int32} {a3 : Int32} {s0 : Int32} :
  xrun k_X9_split 1 C Q [6, 18, 28, 37, 42, 52, 61] K 4 28 [some (.ref 66), some (.int a1), some (.int a2), some (.int a3)] [.int s0] (xS I L z) b =
  (if s0 = 0 then C 187 [.ref 66, .int (-2 : Int32)] (xS I L z) (fun r τ => K 37 [some (.ref 66), some (.int a1), some (.int a2), some (.int a3)] (r.toList ++ []) τ b) else C 244 [.ref 66] (xS I L z) (fun r τ => K 42 [some (.ref 66), some (.int a1), some (.int a2), some (.int a3)] (r.toList ++ []) τ b)) := rfl
set_option maxRecDepth 100000 in
theorem b_X9_split_42 {C : xC} {Q : xQ} {K : xK} {I : xI} {L : xL} {z : Bool × Bool × Nat} {b : Nat × Nat} {a1 : Int32} {a2 : Int32} {a3 : Int32} :
  xrun k_X9_split 1 C Q [6, 18, 28, 37, 42, 52, 61] K 6 42 [some (.ref 66), some (.int a1), some (.int a2), some (.int a3)] [] (xS I L z) b =
  (if a3 = 0 then C 252 [.ref 66, .int a1, .int a2] (xS I L z) (fun r τ => K 52 [some (.ref 66), some (.int a1), some (.int a2), some (.int a3)] (r.toList ++ []) τ b) else C 253 [.ref 66, .int a1, .int a2] (xS I L z) (fun r τ => K 61 [some (.ref 66), some (.int a1), some (.int a2), some (.int a3)] (r.toList ++ []) τ b)) := rfl
set_option maxRecDepth 100000 in
theorem b_X9_split_52 {C : xC} {Q : xQ} {K : xK} {I : xI} {L : xL} {z : Bool × Bool × Nat} {b : Nat × Nat} {a1 : Int32} {a2 : Int32} {a3 : Int32} {s0 : Int32} :
  xrun k_X9_split 1 C Q [6, 18, 28, 37, 42, 52, 61] K 1 52 [some (.ref 66), some (.int a1), some (.int a2), some (.int a3)] [.int s0] (xS I L z) b =
  K 61 [some (.ref 66), some (.int a1), some (.int a2), some (.int a3)] [.int s0] (xS I L z) b := rfl
set_option maxRecDepth 100000 in
theorem b_X9_split_61 {C : xC} {Q : xQ} {K : xK} {I : xI} {L : xL} {z : Bool × Bool × Nat} {b : Nat × Nat} {a1 : Int32} {a2 : Int32} {a3 : Int32} {s0 : Int32} :
  xrun k_X9_split 1 C Q [6, 18, 28, 37, 42, 52, 61] K 1 61 [some (.ref 66), some (.int a1), some (.int a2), some (.int a3)] [.int s0] (xS I L z) b =
  Q (some (.int s0)) (xS I L z) := rfl
set_option maxRecDepth 100000 in
theorem b_X9_nextOf_0 {C : xC} {Q : xQ} {K : xK} {I : xI} {L : xL} {z : Bool × Bool × Nat} {b : Nat × Nat} {a1 : Int32} :
  xrun k_X9_nextOf 1 C Q [7, 19, 31, 42] K 6 0 [some (.ref 66), some (.int a1), none, none, none, none, none] [] (xS I L z) b =
  K 7 [some (.ref 66), some (.int a1), some (.int (-1 : Int32)), some (.int 0), some (.int 0), none, none] [] (xS I L z) b := rfl
set_option maxRecDepth 100000 in
theorem b_X9_nextOf_7 {C : xC} {Q : xQ} {K : xK} {I : xI} {L : xL} {z : Bool × Bool × Nat} {b : Nat × Nat} {a1 : Int32} {a2 : Int32} {a3 : Int32} {a4 : Int32} :
  xrun k_X9_nextOf 1 C Q [7, 19, 31, 42] K 6 7 [some (.ref 66), some (.int a1), some (.int a2), some (.int a3), some (.int a4), none, none] [] (xS I L z) b =
  (if a4 < (I 66 9) then K 19 [some (.ref 66), some (.int a1), some (.int a2), some (.int a3), some (.int a4), some (.int 0), none] [] (xS I L z) b else Q (some (.int a2)) (xS I L z)) := rfl
set_option maxRecDepth 100000 in
theorem b_X9_nextOf_19 {C : xC} {Q : xQ} {K : xK} {I : xI} {L : xL} {z : Bool × Bool × Nat} {b : Nat × Nat} {a1 : Int32} {a2 : Int32} {a3 : Int32} {a4 : Int32} {a5 : Int32} :
  xrun k_X9_nextOf 1 C Q [7, 19, 31, 42] K 6 19 [some (.ref 66), some (.int a1), some (.int a2), some (.int a3), some (.int a4), some (.int a5), none] [] (xS I L z) b =
  (if a5 < 4 then C 191 [.int a1, .int a5] (xS I L z) (fun r τ => K 31 [some (.ref 66), some (.int a1), some (.int a2), some (.int a3), some (.int a4), some (.int a5), none] (r.toList ++ []) τ b) else K 7 [some (.ref 66), some (.int a1), some (.int a2), some (.int a3), some (.int (a4 + 1)), some (.int a5), none] [] (xS I L z) b) := rfl
set_option maxRecDepth 100000 in
theorem b_X9_nextOf_31 {C : xC} {Q : xQ} {K : xK} {I : xI} {L : xL} {z : Bool × Bool × Nat} {b : Nat × Nat} {a1 : Int32} {a2 : Int32} {a3 : Int32} {a4 : Int32} {a5 : Int32} {s0 : Int32} :
  xrun k_X9_nextOf 1 C Q [7, 19, 31, 42] K 5 31 [some (.ref 66), some (.int a1), some (.int a2), some (.int a3), some (.int a4), some (.int a5), none] [.int s0] (xS I L z) b =
  (if s0 = 0 then K 19 [some (.ref 66), some (.int a1), some (.int a2), some (.int a3), some (.int a4), some (.int (a5 + 1)), none] [] (xS I L z) b else C 253 [.ref 66, .int a4, .int a5] (xS I L z) (fun r τ => K 42 [some (.ref 66), some (.int a1), some (.int a2), some (.int a3), some (.int a4), some (.int a5), none] (r.toList ++ []) τ b)) := rfl
set_option maxRecDepth 100000 in
theorem b_X9_nextOf_42 {C : xC} {Q : xQ} {K : xK} {I : xI} {L : xL} {z : Bool × Bool × Nat} {b : Nat × Nat} {a1 : Int32} {a2 : Int32} {a3 : Int32} {a4 : Int32} {a5 : Int32} {s0 : Int32} :
  xrun k_X9_nextOf 1 C Q [7, 19, 31, 42] K 17 42 [some (.ref 66), some (.int a1), some (.int a2), some (.int a3), some (.int a4), some (.int a5), none] [.int s0] (xS I L z) b =
  (if a2 = (-1 : Int32) then K 19 [some (.ref 66), some (.int a1), some (.int ((10 * a4) + a5)), some (.int s0), some (.int a4), some (.int (a5 + 1)), some (.int s0)] [] (xS I L z) b else (if s0 < a3 then K 19 [some (.ref 66), some (.int a1), some (.int ((10 * a4) + a5)), some (.int s0), some (.int a4), some (.int (a5 + 1)), some (.int s0)] [] (xS I L z) b else K 19 [some (.ref 66), some (.int a1), some (.int a2), some (.int a3), some (.int a4), some (.int (a5 + 1)), some (.int s0)] [] (xS I L z) b)) := rfl
set_option maxRecDepth 100000 in
theorem b_X9_next_0 {C : xC} {Q : xQ} {K : xK} {I : xI} {L : xL} {z : Bool × Bool × Nat} {b : Nat × Nat} {a1 : Int32} :
  xrun k_X9_next 1 C Q [9, 18, 23, 36, 44] K 5 0 [some (.ref 66), some (.int a1)] [] (xS I L z) b =
  C 188 [.long (Int32.toInt64 a1), .long (Int64.ofNat 1), .long (Int64.ofNat 15)] (xS I L z) (fun r τ => K 9 [some (.ref 66), some (.int a1)] (r.toList ++ []) τ b) := rfl
set_option maxRecDepth 100000 in
theorem b_X9_next_9 {C : xC} {Q : xQ} {K : xK} {I : xI} {L : xL} {z : Bool × Bool × Nat} {b : Nat × Nat} {a1 : Int32} {s0 : Int32} :
  xrun k_X9_next 1 C Q [9, 18, 23, 36, 44] K 4 9 [some (.ref 66), some (.int a1)] [.int s0] (xS I L z) b =
  (if s0 = 0 then C 187 [.ref 66, .int (-2 : Int32)] (xS I L z) (fun r τ => K 18 [some (.ref 66), some (.int a1)] (r.toList ++ []) τ b) else C 244 [.ref 66] (xS I L z) (fun r τ => K 23 [some (.ref 66), some (.int a1)] (r.toList ++ []) τ b)) := rfl
set_option maxRecDepth 100000 in
theorem b_X9_next_18 {C : xC} {Q : xQ} {K : xK} {I : xI} {L : xL} {z : Bool × Bool × Nat} {b : Nat × Nat} {a1 : Int32} {s0 : Int32} :
  xrun k_X9_next 1 C Q [9, 18, 23, 36, 44] K 1 18 [some (.ref 66), some (.int a1)] [.int s0] (xS I L z) b =
  Q (some (.int s0)) (xS I L z) := rfl
set_option maxRecDepth 100000 in
theorem b_X9_next_23 {C : xC} {Q : xQ} {K : xK} {I : xI} {L : xL} {z : Bool × Bool × Nat} {b : Nat × Nat} {a1 : Int32} :
  xrun k_X9_next 1 C Q [9, 18, 23, 36, 44] K 6 23 [some (.ref 66), some (.int a1)] [] (xS I L z) b =
  (if (I 66 36) = 0 then C 187 [.ref 66, .int (-5 : Int32)] (xS I L z) (fun r τ => K 36 [some (.ref 66), some (.int a1)] (r.toList ++ []) τ b) else C 255 [.ref 66, .int a1] (xS I L z) (fun r τ => K 44 [some (.ref 66), some (.int a1)] (r.toList ++ []) τ b)) := rfl
set_option maxRecDepth 100000 in
theorem b_X9_next_36 {C : xC} {Q : xQ} {K : xK} {I : xI} {L : xL} {z : Bool × Bool × Nat} {b : Nat × Nat} {a1 : Int32} {s0 : Int32} :
  xrun k_X9_next 1 C Q [9, 18, 23, 36, 44] K 1 36 [some (.ref 66), some (.int a1)] [.int s0] (xS I L z) b =
  K 44 [some (.ref 66), some (.int a1)] [.int s0] (xS I L z) b := rfl
set_option maxRecDepth 100000 in
theorem b_X9_next_44 {C : xC} {Q : xQ} {K : xK} {I : xI} {L : xL} {z : Bool × Bool × Nat} {b : Nat × Nat} {a1 : Int32} {s0 : Int32} :
  xrun k_X9_next 1 C Q [9, 18, 23, 36, 44] K 1 44 [some (.ref 66), some (.int a1)] [.int s0] (xS I L z) b =
  Q (some (.int s0)) (xS I L z) := rfl
set_option maxRecDepth 100000 in
theorem b_X9_withNumber_0 {C : xC} {Q : xQ} {K : xK} {I : xI} {L : xL} {z : Bool × Bool × Nat} {b : Nat × Nat} {a1 : Int32} {a2 : Int32} {a3 : Int32} {a4 : Int32} :
  xrun k_X9_withNumber 1 C Q [6, 23, 39] K 4 0 [some (.ref 66), some (.int a1), some (.int a2), some (.int a3), some (.int a4), none, none] [] (xS I L z) b =
  K 6 [some (.ref 66), some (.int a1), some (.int a2), some (.int a3), some (.int a4), some (.int 0), some (.int 0)] [] (xS I L z) b := rfl
set_option maxRecDepth 100000 in
theorem b_X9_withNumber_6 {C : xC} {Q : xQ} {K : xK} {I : xI} {L : xL} {z : Bool × Bool × Nat} {b : Nat × Nat} {a1 : Int32} {a2 : Int32} {a3 : Int32} {a4 : Int32} {a5 : Int32} {a6 : Int32} :
  xrun k_X9_withNumber 1 C Q [6, 23, 39] K 8 6 [some (.ref 66), some (.int a1), some (.int a2), some (.int a3), some (.int a4), some (.int a5), some (.int a6)] [] (xS I L z) b =
  (if a6 < (I 66 36) then C 191 [.int a1, .int a6] (xS I L z) (fun r τ => K 23 [some (.ref 66), some (.int a1), some (.int a2), some (.int a3), some (.int a4), some (.int a5), some (.int a6)] (r.toList ++ [.int a5]) τ b) else Q (some (.int a5)) (xS I L z)) := rfl
set_option maxRecDepth 100000 in
theorem b_X9_withNumber_23 {C : xC} {Q : xQ} {K : xK} {I : xI} {L : xL} {z : Bool × Bool × Nat} {b : Nat × Nat} {a1 : Int32} {a2 : Int32} {a3 : Int32} {a4 : Int32} {a5 : Int32} {a6 : Int32} {s1 : Int32} {s0 : Int32} :
  xrun k_X9_withNumber 1 C Q [6, 23, 39] K 9 23 [some (.ref 66), some (.int a1), some (.int a2), some (.int a3), some (.int a4), some (.int a5), some (.int a6)] [.int s0, .int s1] (xS I L z) b =
  (if s0 = 0 then K 6 [some (.ref 66), some (.int a1), some (.int a2), some (.int a3), some (.int a4), some (.int (s1 ||| 0)), some (.int (a6 + 1))] [] (xS I L z) b else (if xin a6 (720) then C 242 [.ref 66, .int (I 108 (Int32.toNatClampNeg a6)), .int a2, .int a3] (xS I L z) (fun r τ => K 39 [some (.ref 66), some (.int a1), some (.int a2), some (.int a3), some (.int a4), some (.int a5), some (.int a6)] (r.toList ++ [.int s1]) τ b) else False)) := rfl
set_option maxRecDepth 100000 in
theorem b_X9_withNumber_39 {C : xC} {Q : xQ} {K : xK} {I : xI} {L : xL} {z : Bool × Bool × Nat} {b : Nat × Nat} {a1 : Int32} {a2 : Int32} {a3 : Int32} {a4 : Int32} {a5 : Int32} {a6 : Int32} {s1 : Int32} {s0 : Int32} :
  xrun k_X9_withNumber 1 C Q [6, 23, 39] K 10 39 [some (.ref 66), some (.int a1), some (.int a2), some (.int a3), some (.int a4), some (.int a5), some (.int a6)] [.int s0, .int s1] (xS I L z) b =
  (if s0 = a4 then K 6 [some (.ref 66), some (.int a1), some (.int a2), some (.int a3), some (.int a4), some (.int (s1 ||| (1 <<< (a6 &&& 31)))), some (.int (a6 + 1))] [] (xS I L z) b else K 6 [some (.ref 66), some (.int a1), some (.int a2), some (.int a3), some (.int a4), some (.int (s1 ||| 0)), some (.int (a6 + 1))] [] (xS I L z) b) := rfl
set_option maxRecDepth 100000 in
theorem b_X9_canTell_0 {C : xC} {Q : xQ} {K : xK} {I : xI} {L : xL} {z : Bool × Bool × Nat} {b : Nat × Nat} {a1 : Int32} {a2 : Int32} {a3 : Int32} :
  xrun k_X9_canTell 2 C Q [4, 35, 47, 59, 73] K 2 0 [some (.ref 66), some (.int a1), some (.int a2), some (.int a3), none, none, none] [] (xS I L z) b =
  C 192 [.int a1] (xS I L z) (fun r τ => K 4 [some (.ref 66), some (.int a1), some (.int a2), some (.int a3), none, none, none] (r.toList ++ []) τ b) := rfl
set_option maxRecDepth 100000 in
theorem b_X9_canTell_4 {C : xC} {Q : xQ} {K : xK} {I : xI} {L : xL} {z : Bool × Bool × Nat} {b : Nat × Nat} {a1 : Int32} {a2 : Int32} {a3 : Int32} {s0 : Int32} :
  xrun k_X9_canTell 2 C Q [4, 35, 47, 59, 73] K 14 4 [some (.ref 66), some (.int a1), some (.int a2), some (.int a3), none, none, none] [.int s0] (xS I L z) b =
  (if s0 < 2 then Q (some (.int 1)) (xS I L z) else (if a3 = 0 then Q (some (.int 0)) (xS I L z) else (if a3 = 1 then (if 10 < s0 then Q (some (.int 0)) (xS I L z) else K 35 [some (.ref 66), some (.int a1), some (.int a2), some (.int a3), some (.int s0), some (.int 0), none] [] (xS I L z) b) else K 35 [some (.ref 66), some (.int a1), some (.int a2), some (.int a3), some (.int s0), some (.int 0), none] [] (xS I L z) b))) := rfl
set_option maxRecDepth 100000 in
theorem b_X9_canTell_35 {C : xC} {Q : xQ} {K : xK} {I : xI} {L : xL} {z : Bool × Bool × Nat} {b : Nat × Nat} {a1 : Int32} {a2 : Int32} {a3 : Int32} {a4 : Int32} {a5 : Int32} :
  xrun k_X9_canTell 2 C Q [4, 35, 47, 59, 73] K 6 35 [some (.ref 66), some (.int a1), some (.int a2), some (.int a3), some (.int a4), some (.int a5), none] [] (xS I L z) b =
  (if a5 < (I 66 9) then K 47 [some (.ref 66), some (.int a1), some (.int a2), some (.int a3), some (.int a4), some (.int a5), some (.int 0)] [] (xS I L z) b else Q (some (.int 0)) (xS I L z)) := rfl
set_option maxRecDepth 100000 in
theorem b_X9_canTell_47 {C : xC} {Q : xQ} {K : xK} {I : xI} {L : xL} {z : Bool × Bool × Nat} {b : Nat × Nat} {a1 : Int32} {a2 : Int32} {a3 : Int32} {a4 : Int32} {a5 : Int32} {a6 : Int32} :
  xrun k_X9_canTell 2 C Q [4, 35, 47, 59, 73] K 6 47 [some (.ref 66), some (.int a1), some (.int a2), some (.int a3), some (.int a4), some (.int a5), some (.int a6)] [] (xS I L z) b =
  (if a6 < 4 then C 191 [.int a2, .int a6] (xS I L z) (fun r τ => K 59 [some (.ref 66), some (.int a1), some (.int a2), some (.int a3), some (.int a4), some (.int a5), some (.int a6)] (r.toList ++ []) τ b) else K 35 [some (.ref 66), some (.int a1), some (.int a2), some (.int a3), some (.int a4), some (.int (a5 + 1)), some (.int a6)] [] (xS I L z) b) := rfl
set_option maxRecDepth 100000 in
theorem b_X9_canTell_59 {C : xC} {Q : xQ} {K : xK} {I : xI} {L : xL} {z : Bool × Bool × Nat} {b : Nat × Nat} {a1 : Int32} {a2 : Int32} {a3 : Int32} {a4 : Int32} {a5 : Int32} {a6 : Int32} {s0 : Int32} :
  xrun k_X9_canTell 2 C Q [4, 35, 47, 59, 73] K 8 59 [some (.ref 66), some (.int a1), some (.int a2), some (.int a3), some (.int a4), some (.int a5), some (.int a6)] [.int s0] (xS I L z) b =
  (if s0 = 0 then K 47 [some (.ref 66), some (.int a1), some (.int a2), some (.int a3), some (.int a4), some (.int a5), some (.int (a6 + 1))] [] (xS I L z) b else C 259 [.ref 66, .int a1, .int a2, .int a3, .int a5, .int a6] (xS I L z) (fun r τ => K 73 [some (.ref 66), some (.int a1), some (.int a2), some (.int a3), some (.int a4), some (.int a5), some (.int a6)] (r.toList ++ []) τ b)) := rfl
set_option maxRecDepth 100000 in
theorem b_X9_canTell_73 {C : xC} {Q : xQ} {K : xK} {I : xI} {L : xL} {z : Bool × Bool × Nat} {b : Nat × Nat} {a1 : Int32} {a2 : Int32} {a3 : Int32} {a4 : Int32} {a5 : Int32} {a6 : Int32} {s0 : Int32} :
  xrun k_X9_canTell 2 C Q [4, 35, 47, 59, 73] K 3 73 [some (.ref 66), some (.int a1), some (.int a2), some (.int a3), some (.int a4), some (.int a5), some (.int a6)] [.int s0] (xS I L z) b =
  (if s0 = 0 then K 47 [some (.ref 66), some (.int a1), some (.int a2), some (.int a3), some (.int a4), some (.int a5), some (.int (a6 + 1))] [] (xS I L z) b else Q (some (.int 1)) (xS I L z)) := rfl
set_option maxRecDepth 100000 in
theorem b_X9_partsTell_0 {C : xC} {Q : xQ} {K : xK} {I : xI} {L : xL} {z : Bool × Bool × Nat} {b : Nat × Nat} {a1 : Int32} {a2 : Int32} {a3 : Int32} {a4 : Int32} {a5 : Int32} :
  xrun k_X9_partsTell 2 C Q [3, 21, 39] K 2 0 [some (.ref 66), some (.int a1), some (.int a2), some (.int a3), some (.int a4), some (.int a5), none, none] [] (xS I L z) b =
  K 3 [some (.ref 66), some (.int a1), some (.int a2), some (.int a3), some (.int a4), some (.int a5), some (.int 0), none] [] (xS I L z) b := rfl
set_option maxRecDepth 100000 in
theorem b_X9_partsTell_3 {C : xC} {Q : xQ} {K : xK} {I : xI} {L : xL} {z : Bool × Bool × Nat} {b : Nat × Nat} {a1 : Int32} {a2 : Int32} {a3 : Int32} {a4 : Int32} {a5 : Int32} {a6 : Int32} :
  xrun k_X9_partsTell 2 C Q [3, 21, 39] K 9 3 [some (.ref 66), some (.int a1), some (.int a2), some (.int a3), some (.int a4), some (.int a5), some (.int a6), none] [] (xS I L z) b =
  (if a6 < 10 then C 257 [.ref 66, .int a1, .int a4, .int a5, .int a6] (xS I L z) (fun r τ => K 21 [some (.ref 66), some (.int a1), some (.int a2), some (.int a3), some (.int a4), some (.int a5), some (.int a6), none] (r.toList ++ []) τ b) else Q (some (.int 1)) (xS I L z)) := rfl
set_option maxRecDepth 100000 in
theorem b_X9_partsTell_21 {C : xC} {Q : xQ} {K : xK} {I : xI} {L : xL} {z : Bool × Bool × Nat} {b : Nat × Nat} {a1 : Int32} {a2 : Int32} {a3 : Int32} {a4 : Int32} {a5 : Int32} {a6 : Int32} {s0 : Int32} :
  xrun k_X9_partsTell 2 C Q [3, 21, 39] K 11 21 [some (.ref 66), some (.int a1), some (.int a2), some (.int a3), some (.int a4), some (.int a5), some (.int a6), none] [.int s0] (xS I L z) b =
  (if s0 = a1 then Q (some (.int 0)) (xS I L z) else C 258 [.ref 66, .int s0, .int a2, .int (a3 - 1)] (xS I L z) (fun r τ => K 39 [some (.ref 66), some (.int a1), some (.int a2), some (.int a3), some (.int a4), some (.int a5), some (.int a6), some (.int s0)] (r.toList ++ []) τ b)) := rfl
set_option maxRecDepth 100000 in
theorem b_X9_partsTell_39 {C : xC} {Q : xQ} {K : xK} {I : xI} {L : xL} {z : Bool × Bool × Nat} {b : Nat × Nat} {a1 : Int32} {a2 : Int32} {a3 : Int32} {a4 : Int32} {a5 : Int32} {a6 : Int32} {a7 : Int32} {s0 : Int32} :
  xrun k_X9_partsTell 2 C Q [3, 21, 39] K 3 39 [some (.ref 66), some (.int a1), some (.int a2), some (.int a3), some (.int a4), some (.int a5), some (.int a6), some (.int a7)] [.int s0] (xS I L z) b =
  (if s0 = 0 then Q (some (.int 0)) (xS I L z) else K 3 [some (.ref 66), some (.int a1), some (.int a2), some (.int a3), some (.int a4), some (.int a5), some (.int (a6 + 1)), some (.int a7)] [] (xS I L z) b) := rfl
set_option maxRecDepth 100000 in
theorem b_X9_areAlike_0 {C : xC} {Q : xQ} {K : xK} {I : xI} {L : xL} {z : Bool × Bool × Nat} {b : Nat × Nat} {a1 : Int32} {a2 : Int32} {a3 : Int32} :
  xrun k_X9_areAlike 2 C Q [3, 15, 27, 39, 48] K 2 0 [some (.ref 66), some (.int a1), some (.int a2), some (.int a3), none, none] [] (xS I L z) b =
  K 3 [some (.ref 66), some (.int a1), some (.int a2), some (.int a3), some (.int 0), none] [] (xS I L z) b := rfl
set_option maxRecDepth 100000 in
theorem b_X9_areAlike_3 {C : xC} {Q : xQ} {K : xK} {I : xI} {L : xL} {z : Bool × Bool × Nat} {b : Nat × Nat} {a1 : Int32} {a2 : Int32} {a3 : Int32} {a4 : Int32} :
  xrun k_X9_areAlike 2 C Q [3, 15, 27, 39, 48] K 6 3 [some (.ref 66), some (.int a1), some (.int a2), some (.int a3), some (.int a4), none] [] (xS I L z) b =
  (if a4 < (I 66 9) then K 15 [some (.ref 66), some (.int a1), some (.int a2), some (.int a3), some (.int a4), some (.int 0)] [] (xS I L z) b else Q (some (.int 1)) (xS I L z)) := rfl
set_option maxRecDepth 100000 in
theorem b_X9_areAlike_15 {C : xC} {Q : xQ} {K : xK} {I : xI} {L : xL} {z : Bool × Bool × Nat} {b : Nat × Nat} {a1 : Int32} {a2 : Int32} {a3 : Int32} {a4 : Int32} {a5 : Int32} :
  xrun k_X9_areAlike 2 C Q [3, 15, 27, 39, 48] K 6 15 [some (.ref 66), some (.int a1), some (.int a2), some (.int a3), some (.int a4), some (.int a5)] [] (xS I L z) b =
  (if a5 < 4 then C 191 [.int a3, .int a5] (xS I L z) (fun r τ => K 27 [some (.ref 66), some (.int a1), some (.int a2), some (.int a3), some (.int a4), some (.int a5)] (r.toList ++ []) τ b) else K 3 [some (.ref 66), some (.int a1), some (.int a2), some (.int a3), some (.int (a4 + 1)), some (.int a5)] [] (xS I L z) b) := rfl
set_option maxRecDepth 100000 in
theorem b_X9_areAlike_27 {C : xC} {Q : xQ} {K : xK} {I : xI} {L : xL} {z : Bool × Bool × Nat} {b : Nat × Nat} {a1 : Int32} {a2 : Int32} {a3 : Int32} {a4 : Int32} {a5 : Int32} {s0 : Int32} :
  xrun k_X9_areAlike 2 C Q [3, 15, 27, 39, 48] K 6 27 [some (.ref 66), some (.int a1), some (.int a2), some (.int a3), some (.int a4), some (.int a5)] [.int s0] (xS I L z) b =
  (if s0 = 0 then K 15 [some (.ref 66), some (.int a1), some (.int a2), some (.int a3), some (.int a4), some (.int (a5 + 1))] [] (xS I L z) b else C 242 [.ref 66, .int a1, .int a4, .int a5] (xS I L z) (fun r τ => K 39 [some (.ref 66), some (.int a1), some (.int a2), some (.int a3), some (.int a4), some (.int a5)] (r.toList ++ []) τ b)) := rfl
set_option maxRecDepth 100000 in
theorem b_X9_areAlike_39 {C : xC} {Q : xQ} {K : xK} {I : xI} {L : xL} {z : Bool × Bool × Nat} {b : Nat × Nat} {a1 : Int32} {a2 : Int32} {a3 : Int32} {a4 : Int32} {a5 : Int32} {s0 : Int32} :
  xrun k_X9_areAlike 2 C Q [3, 15, 27, 39, 48] K 5 39 [some (.ref 66), some (.int a1), some (.int a2), some (.int a3), some (.int a4), some (.int a5)] [.int s0] (xS I L z) b =
  C 242 [.ref 66, .int a2, .int a4, .int a5] (xS I L z) (fun r τ => K 48 [some (.ref 66), some (.int a1), some (.int a2), some (.int a3), some (.int a4), some (.int a5)] (r.toList ++ [.int s0]) τ b) := rfl
set_option maxRecDepth 100000 in
theorem b_X9_areAlike_48 {C : xC} {Q : xQ} {K : xK} {I : xI} {L : xL} {z : Bool × Bool × Nat} {b : Nat × Nat} {a1 : Int32} {a2 : Int32} {a3 : Int32} {a4 : Int32} {a5 : Int32} {s1 : Int32} {s0 : Int32} :
  xrun k_X9_areAlike 2 C Q [3, 15, 27, 39, 48] K 3 48 [some (.ref 66), some (.int a1), some (.int a2), some (.int a3), some (.int a4), some (.int a5)] [.int s0, .int s1] (xS I L z) b =
  (if s1 = s0 then K 15 [some (.ref 66), some (.int a1), some (.int a2), some (.int a3), some (.int a4), some (.int (a5 + 1))] [] (xS I L z) b else Q (some (.int 0)) (xS I L z)) := rfl
set_option maxRecDepth 100000 in
theorem b_X9_canNever_0 {C : xC} {Q : xQ} {K : xK} {I : xI} {L : xL} {z : Bool × Bool × Nat} {b : Nat × Nat} {a1 : Int32} :
  xrun k_X9_canNever 2 C Q [2, 12, 34] K 2 0 [some (.ref 66), some (.int a1), none, none] [] (xS I L z) b =
  K 2 [some (.ref 66), some (.int a1), some (.int 0), none] [] (xS I L z) b := rfl
set_option maxRecDepth 100000 in
theorem b_X9_canNever_2 {C : xC} {Q : xQ} {K : xK} {I : xI} {L : xL} {z : Bool × Bool × Nat} {b : Nat × Nat} {a1 : Int32} {a2 : Int32} :
  xrun k_X9_canNever 2 C Q [2, 12, 34] K 6 2 [some (.ref 66), some (.int a1), some (.int a2), none] [] (xS I L z) b =
  (if a2 < (I 66 36) then K 12 [some (.ref 66), some (.int a1), some (.int a2), some (.int 0)] [] (xS I L z) b else Q (some (.int 0)) (xS I L z)) := rfl
set_option maxRecDepth 100000 in
theorem b_X9_canNever_12 {C : xC} {Q : xQ} {K : xK} {I : xI} {L : xL} {z : Bool × Bool × Nat} {b : Nat × Nat} {a1 : Int32} {a2 : Int32} {a3 : Int32} :
  xrun k_X9_canNever 2 C Q [2, 12, 34] K 14 12 [some (.ref 66), some (.int a1), some (.int a2), some (.int a3)] [] (xS I L z) b =
  (if a3 < a2 then (if xin a2 (720) then (if xin a3 (720) then C 260 [.ref 66, .int (I 108 (Int32.toNatClampNeg a2)), .int (I 108 (Int32.toNatClampNeg a3)), .int a1] (xS I L z) (fun r τ => K 34 [some (.ref 66), some (.int a1), some (.int a2), some (.int a3)] (r.toList ++ []) τ b) else False) else False) else K 2 [some (.ref 66), some (.int a1), some (.int (a2 + 1)), some (.int a3)] [] (xS I L z) b) := rfl
set_option maxRecDepth 100000 in
theorem b_X9_canNever_34 {C : xC} {Q : xQ} {K : xK} {I : xI} {L : xL} {z : Bool × Bool × Nat} {b : Nat × Nat} {a1 : Int32} {a2 : Int32} {a3 : Int32} {s0 : Int32} :
  xrun k_X9_canNever 2 C Q [2, 12, 34] K 3 34 [some (.ref 66), some (.int a1), some (.int a2), some (.int a3)] [.int s0] (xS I L z) b =
  (if s0 = 0 then K 12 [some (.ref 66), some (.int a1), some (.int a2), some (.int (a3 + 1))] [] (xS I L z) b else Q (some (.int 1)) (xS I L z)) := rfl
set_option maxRecDepth 100000 in
theorem b_X9_fewest_0 {C : xC} {Q : xQ} {K : xK} {I : xI} {L : xL} {z : Bool × Bool × Nat} {b : Nat × Nat} {a1 : Int32} :
  xrun k_X9_fewest 1 C Q [9, 18, 23, 45, 51, 58, 77] K 5 0 [some (.ref 66), some (.int a1), none] [] (xS I L z) b =
  C 188 [.long (Int32.toInt64 a1), .long (Int64.ofNat 1), .long (Int64.ofNat 15)] (xS I L z) (fun r τ => K 9 [some (.ref 66), some (.int a1), none] (r.toList ++ []) τ b) := rfl
set_option maxRecDepth 100000 in
theorem b_X9_fewest_9 {C : xC} {Q : xQ} {K : xK} {I : xI} {L : xL} {z : Bool × Bool × Nat} {b : Nat × Nat} {a1 : Int32} {s0 : Int32} :
  xrun k_X9_fewest 1 C Q [9, 18, 23, 45, 51, 58, 77] K 4 9 [some (.ref 66), some (.int a1), none] [.int s0] (xS I L z) b =
  (if s0 = 0 then C 187 [.ref 66, .int (-2 : Int32)] (xS I L z) (fun r τ => K 18 [some (.ref 66), some (.int a1), none] (r.toList ++ []) τ b) else C 244 [.ref 66] (xS I L z) (fun r τ => K 23 [some (.ref 66), some (.int a1), none] (r.toList ++ []) τ b)) := rfl
set_option maxRecDepth 100000 in
theorem b_X9_fewest_18 {C : xC} {Q : xQ} {K : xK} {I : xI} {L : xL} {z : Bool × Bool × Nat} {b : Nat × Nat} {a1 : Int32} {s0 : Int32} :
  xrun k_X9_fewest 1 C Q [9, 18, 23, 45, 51, 58, 77] K 1 18 [some (.ref 66), some (.int a1), none] [.int s0] (xS I L z) b =
  Q (some (.int s0)) (xS I L z) := rfl
set_option maxRecDepth 100000 in
theorem b_X9_fewest_23 {C : xC} {Q : xQ} {K : xK} {I : xI} {L : xL} {z : Bool × Bool × Nat} {b : Nat × Nat} {a1 : Int32} :
  xrun k_X9_fewest 1 C Q [9, 18, 23, 45, 51, 58, 77] K 10 23 [some (.ref 66), some (.int a1), none] [] (xS I L z) b =
  (if (I 66 36) = 0 then C 187 [.ref 66, .int (-5 : Int32)] (xS I L z) (fun r τ => K 45 [some (.ref 66), some (.int a1), none] (r.toList ++ []) τ b) else (if 24 < (I 66 36) then C 187 [.ref 66, .int (-5 : Int32)] (xS I L z) (fun r τ => K 45 [some (.ref 66), some (.int a1), none] (r.toList ++ []) τ b) else C 261 [.ref 66, .int a1] (xS I L z) (fun r τ => K 51 [some (.ref 66), some (.int a1), none] (r.toList ++ []) τ b))) := rfl
set_option maxRecDepth 100000 in
theorem b_X9_fewest_45 {C : xC} {Q : xQ} {K : xK} {I : xI} {L : xL} {z : Bool × Bool × Nat} {b : Nat × Nat} {a1 : Int32} {s0 : Int32} :
  xrun k_X9_fewest 1 C Q [9, 18, 23, 45, 51, 58, 77] K 1 45 [some (.ref 66), some (.int a1), none] [.int s0] (xS I L z) b =
  Q (some (.int s0)) (xS I L z) := rfl
set_option maxRecDepth 100000 in
theorem b_X9_fewest_51 {C : xC} {Q : xQ} {K : xK} {I : xI} {L : xL} {z : Bool × Bool × Nat} {b : Nat × Nat} {a1 : Int32} {s0 : Int32} :
  xrun k_X9_fewest 1 C Q [9, 18, 23, 45, 51, 58, 77] K 3 51 [some (.ref 66), some (.int a1), none] [.int s0] (xS I L z) b =
  (if s0 = 0 then K 58 [some (.ref 66), some (.int a1), some (.int 0)] [] (xS I L z) b else Q (some (.int (-1 : Int32))) (xS I L z)) := rfl
set_option maxRecDepth 100000 in
theorem b_X9_fewest_58 {C : xC} {Q : xQ} {K : xK} {I : xI} {L : xL} {z : Bool × Bool × Nat} {b : Nat × Nat} {a1 : Int32} {a2 : Int32} :
  xrun k_X9_fewest 1 C Q [9, 18, 23, 45, 51, 58, 77] K 13 58 [some (.ref 66), some (.int a1), some (.int a2)] [] (xS I L z) b =
  (if 4 < a2 then Q (some (.int (-1 : Int32))) (xS I L z) else C 258 [.ref 66, .int ((1 <<< ((I 66 36) &&& 31)) - 1), .int a1, .int a2] (xS I L z) (fun r τ => K 77 [some (.ref 66), some (.int a1), some (.int a2)] (r.toList ++ []) τ b)) := rfl
set_option maxRecDepth 100000 in
theorem b_X9_fewest_77 {C : xC} {Q : xQ} {K : xK} {I : xI} {L : xL} {z : Bool × Bool × Nat} {b : Nat × Nat} {a1 : Int32} {a2 : Int32} {s0 : Int32} :
  xrun k_X9_fewest 1 C Q [9, 18, 23, 45, 51, 58, 77] K 3 77 [some (.ref 66), some (.int a1), some (.int a2)] [.int s0] (xS I L z) b =
  (if s0 = 0 then K 58 [some (.ref 66), some (.int a1), some (.int (a2 + 1))] [] (xS I L z) b else Q (some (.int a2)) (xS I L z)) := rfl
set_option maxRecDepth 100000 in
theorem b_X9_tellsApart_0 {C : xC} {Q : xQ} {K : xK} {I : xI} {L : xL} {z : Bool × Bool × Nat} {b : Nat × Nat} {a1 : Int32} :
  xrun k_X9_tellsApart 2 C Q [2, 12, 23, 40, 55, 67] K 2 0 [some (.ref 66), some (.int a1), none, none, none, none] [] (xS I L z) b =
  K 2 [some (.ref 66), some (.int a1), some (.int 0), none, none, none] [] (xS I L z) b := rfl
set_option maxRecDepth 100000 in
theorem b_X9_tellsApart_2 {C : xC} {Q : xQ} {K : xK} {I : xI} {L : xL} {z : Bool × Bool × Nat} {b : Nat × Nat} {a1 : Int32} {a2 : Int32} :
  xrun k_X9_tellsApart 2 C Q [2, 12, 23, 40, 55, 67] K 6 2 [some (.ref 66), some (.int a1), some (.int a2), none, none, none] [] (xS I L z) b =
  (if a2 < (I 66 36) then K 12 [some (.ref 66), some (.int a1), some (.int a2), some (.int 0), none, none] [] (xS I L z) b else Q (some (.int 1)) (xS I L z)) := rfl
set_option maxRecDepth 100000 in
theorem b_X9_tellsApart_12 {C : xC} {Q : xQ} {K : xK} {I : xI} {L : xL} {z : Bool × Bool × Nat} {b : Nat × Nat} {a1 : Int32} {a2 : Int32} {a3 : Int32} :
  xrun k_X9_tellsApart 2 C Q [2, 12, 23, 40, 55, 67] K 7 12 [some (.ref 66), some (.int a1), some (.int a2), some (.int a3), none, none] [] (xS I L z) b =
  (if a3 < a2 then K 23 [some (.ref 66), some (.int a1), some (.int a2), some (.int a3), some (.int 1), some (.int 0)] [] (xS I L z) b else K 2 [some (.ref 66), some (.int a1), some (.int (a2 + 1)), some (.int a3), none, none] [] (xS I L z) b) := rfl
set_option maxRecDepth 100000 in
theorem b_X9_tellsApart_23 {C : xC} {Q : xQ} {K : xK} {I : xI} {L : xL} {z : Bool × Bool × Nat} {b : Nat × Nat} {a1 : Int32} {a2 : Int32} {a3 : Int32} {a4 : Int32} {a5 : Int32} :
  xrun k_X9_tellsApart 2 C Q [2, 12, 23, 40, 55, 67] K 8 23 [some (.ref 66), some (.int a1), some (.int a2), some (.int a3), some (.int a4), some (.int a5)] [] (xS I L z) b =
  (if a5 < (I 66 9) then C 191 [.int a1, .int a5] (xS I L z) (fun r τ => K 40 [some (.ref 66), some (.int a1), some (.int a2), some (.int a3), some (.int a4), some (.int a5)] (r.toList ++ [.int a4]) τ b) else (if a4 = 0 then K 12 [some (.ref 66), some (.int a1), some (.int a2), some (.int (a3 + 1)), some (.int a4), some (.int a5)] [] (xS I L z) b else Q (some (.int 0)) (xS I L z))) := rfl
set_option maxRecDepth 100000 in
theorem b_X9_tellsApart_40 {C : xC} {Q : xQ} {K : xK} {I : xI} {L : xL} {z : Bool × Bool × Nat} {b : Nat × Nat} {a1 : Int32} {a2 : Int32} {a3 : Int32} {a4 : Int32} {a5 : Int32} {s1 : Int32} {s0 : Int32} :
  xrun k_X9_tellsApart 2 C Q [2, 12, 23, 40, 55, 67] K 8 40 [some (.ref 66), some (.int a1), some (.int a2), some (.int a3), some (.int a4), some (.int a5)] [.int s0, .int s1] (xS I L z) b =
  (if s0 = 0 then K 23 [some (.ref 66), some (.int a1), some (.int a2), some (.int a3), some (.int (s1 &&& 1)), some (.int (a5 + 1))] [] (xS I L z) b else (if xin a2 (720) then C 235 [.ref 66, .int (I 108 (Int32.toNatClampNeg a2)), .int a5] (xS I L z) (fun r τ => K 55 [some (.ref 66), some (.int a1), some (.int a2), some (.int a3), some (.int a4), some (.int a5)] (r.toList ++ [.int s1]) τ b) else False)) := rfl
set_option maxRecDepth 100000 in
theorem b_X9_tellsApart_55 {C : xC} {Q : xQ} {K : xK} {I : xI} {L : xL} {z : Bool × Bool × Nat} {b : Nat × Nat} {a1 : Int32} {a2 : Int32} {a3 : Int32} {a4 : Int32} {a5 : Int32} {s1 : Int32} {s0 : Int32} :
  xrun k_X9_tellsApart 2 C Q [2, 12, 23, 40, 55, 67] K 7 55 [some (.ref 66), some (.int a1), some (.int a2), some (.int a3), some (.int a4), some (.int a5)] [.int s0, .int s1] (xS I L z) b =
  (if xin a3 (720) then C 235 [.ref 66, .int (I 108 (Int32.toNatClampNeg a3)), .int a5] (xS I L z) (fun r τ => K 67 [some (.ref 66), some (.int a1), some (.int a2), some (.int a3), some (.int a4), some (.int a5)] (r.toList ++ [.int s0, .int s1]) τ b) else False) := rfl
set_option maxRecDepth 100000 in
theorem b_X9_tellsApart_67 {C : xC} {Q : xQ} {K : xK} {I : xI} {L : xL} {z : Bool × Bool × Nat} {b : Nat × Nat} {a1 : Int32} {a2 : Int32} {a3 : Int32} {a4 : Int32} {a5 : Int32} {s2 : Int32} {s1 : Int32} {s0 : Int32} :
  xrun k_X9_tellsApart 2 C Q [2, 12, 23, 40, 55, 67] K 7 67 [some (.ref 66), some (.int a1), some (.int a2), some (.int a3), some (.int a4), some (.int a5)] [.int s0, .int s1, .int s2] (xS I L z) b =
  (if s1 = s0 then K 23 [some (.ref 66), some (.int a1), some (.int a2), some (.int a3), some (.int (s2 &&& 1)), some (.int (a5 + 1))] [] (xS I L z) b else K 23 [some (.ref 66), some (.int a1), some (.int a2), some (.int a3), some (.int (s2 &&& 0)), some (.int (a5 + 1))] [] (xS I L z) b) := rfl
set_option maxRecDepth 100000 in
theorem b_X9_apart_0 {C : xC} {Q : xQ} {K : xK} {I : xI} {L : xL} {z : Bool × Bool × Nat} {b : Nat × Nat}  :
  xrun k_X9_apart 1 C Q [4, 17, 20, 30, 44, 53, 76] K 2 0 [some (.ref 66), none, none] [] (xS I L z) b =
  C 244 [.ref 66] (xS I L z) (fun r τ => K 4 [some (.ref 66), none, none] (r.toList ++ []) τ b) := rfl
set_option maxRecDepth 100000 in
theorem b_X9_apart_4 {C : xC} {Q : xQ} {K : xK} {I : xI} {L : xL} {z : Bool × Bool × Nat} {b : Nat × Nat}  :
  xrun k_X9_apart 1 C Q [4, 17, 20, 30, 44, 53, 76] K 6 4 [some (.ref 66), none, none] [] (xS I L z) b =
  (if (I 66 36) = 0 then C 187 [.ref 66, .int (-5 : Int32)] (xS I L z) (fun r τ => K 17 [some (.ref 66), none, none] (r.toList ++ []) τ b) else K 20 [some (.ref 66), some (.int 0), none] [] (xS I L z) b) := rfl
set_option maxRecDepth 100000 in
theorem b_X9_apart_17 {C : xC} {Q : xQ} {K : xK} {I : xI} {L : xL} {z : Bool × Bool × Nat} {b : Nat × Nat} {s0 : Int32} :
  xrun k_X9_apart 1 C Q [4, 17, 20, 30, 44, 53, 76] K 1 17 [some (.ref 66), none, none] [.int s0] (xS I L z) b =
  Q (some (.int s0)) (xS I L z) := rfl
set_option maxRecDepth 100000 in
theorem b_X9_apart_20 {C : xC} {Q : xQ} {K : xK} {I : xI} {L : xL} {z : Bool × Bool × Nat} {b : Nat × Nat} {a1 : Int32} :
  xrun k_X9_apart 1 C Q [4, 17, 20, 30, 44, 53, 76] K 7 20 [some (.ref 66), some (.int a1), none] [] (xS I L z) b =
  (if (I 66 9) < a1 then C 187 [.ref 66, .int (-5 : Int32)] (xS I L z) (fun r τ => K 76 [some (.ref 66), some (.int a1), none] (r.toList ++ []) τ b) else K 30 [some (.ref 66), some (.int a1), some (.int 0)] [] (xS I L z) b) := rfl
set_option maxRecDepth 100000 in
theorem b_X9_apart_30 {C : xC} {Q : xQ} {K : xK} {I : xI} {L : xL} {z : Bool × Bool × Nat} {b : Nat × Nat} {a1 : Int32} {a2 : Int32} :
  xrun k_X9_apart 1 C Q [4, 17, 20, 30, 44, 53, 76] K 8 30 [some (.ref 66), some (.int a1), some (.int a2)] [] (xS I L z) b =
  (if a2 < (1 <<< ((I 66 9) &&& 31)) then C 192 [.int a2] (xS I L z) (fun r τ => K 44 [some (.ref 66), some (.int a1), some (.int a2)] (r.toList ++ []) τ b) else K 20 [some (.ref 66), some (.int (a1 + 1)), some (.int a2)] [] (xS I L z) b) := rfl
set_option maxRecDepth 100000 in
theorem b_X9_apart_76 {C : xC} {Q : xQ} {K : xK} {I : xI} {L : xL} {z : Bool × Bool × Nat} {b : Nat × Nat} {a1 : Int32} {s0 : Int32} :
  xrun k_X9_apart 1 C Q [4, 17, 20, 30, 44, 53, 76] K 1 76 [some (.ref 66), some (.int a1), none] [.int s0] (xS I L z) b =
  Q (some (.int s0)) (xS I L z) := rfl
set_option maxRecDepth 100000 in
theorem b_X9_apart_44 {C : xC} {Q : xQ} {K : xK} {I : xI} {L : xL} {z : Bool × Bool × Nat} {b : Nat × Nat} {a1 : Int32} {a2 : Int32} {s0 : Int32} :
  xrun k_X9_apart 1 C Q [4, 17, 20, 30, 44, 53, 76] K 5 44 [some (.ref 66), some (.int a1), some (.int a2)] [.int s0] (xS I L z) b =
  (if s0 = a1 then C 263 [.ref 66, .int a2] (xS I L z) (fun r τ => K 53 [some (.ref 66), some (.int a1), some (.int a2)] (r.toList ++ []) τ b) else K 30 [some (.ref 66), some (.int a1), some (.int (a2 + 1))] [] (xS I L z) b) := rfl
set_option maxRecDepth 100000 in
theorem b_X9_apart_53 {C : xC} {Q : xQ} {K : xK} {I : xI} {L : xL} {z : Bool × Bool × Nat} {b : Nat × Nat} {a1 : Int32} {a2 : Int32} {s0 : Int32} :
  xrun k_X9_apart 1 C Q [4, 17, 20, 30, 44, 53, 76] K 3 53 [some (.ref 66), some (.int a1), some (.int a2)] [.int s0] (xS I L z) b =
  (if s0 = 0 then K 30 [some (.ref 66), some (.int a1), some (.int (a2 + 1))] [] (xS I L z) b else Q (some (.int a2)) (xS I L z)) := rfl
set_option maxRecDepth 100000 in
theorem b_X9_marks_0 {C : xC} {Q : xQ} {K : xK} {I : xI} {L : xL} {z : Bool × Bool × Nat} {b : Nat × Nat} {a1 : Int32} :
  xrun k_X9_marks 1 C Q [9, 18, 23, 27, 41, 60] K 5 0 [some (.ref 66), some (.int a1), none, none, none, none] [] (xS I L z) b =
  C 188 [.long (Int32.toInt64 a1), .long (Int64.ofNat 0), .long (Int64.ofNat 15)] (xS I L z) (fun r τ => K 9 [some (.ref 66), some (.int a1), none, none, none, none] (r.toList ++ []) τ b) := rfl
set_option maxRecDepth 100000 in
theorem b_X9_marks_9 {C : xC} {Q : xQ} {K : xK} {I : xI} {L : xL} {z : Bool × Bool × Nat} {b : Nat × Nat} {a1 : Int32} {s0 : Int32} :
  xrun k_X9_marks 1 C Q [9, 18, 23, 27, 41, 60] K 4 9 [some (.ref 66), some (.int a1), none, none, none, none] [.int s0] (xS I L z) b =
  (if s0 = 0 then C 187 [.ref 66, .int (-2 : Int32)] (xS I L z) (fun r τ => K 18 [some (.ref 66), some (.int a1), none, none, none, none] (r.toList ++ []) τ b) else C 241 [.ref 66] (xS I L z) (fun r τ => K 23 [some (.ref 66), some (.int a1), none, none, none, none] (r.toList ++ []) τ b)) := rfl
set_option maxRecDepth 100000 in
theorem b_X9_marks_18 {C : xC} {Q : xQ} {K : xK} {I : xI} {L : xL} {z : Bool × Bool × Nat} {b : Nat × Nat} {a1 : Int32} {s0 : Int32} :
  xrun k_X9_marks 1 C Q [9, 18, 23, 27, 41, 60] K 1 18 [some (.ref 66), some (.int a1), none, none, none, none] [.int s0] (xS I L z) b =
  Q (some (.int s0)) (xS I L z) := rfl
set_option maxRecDepth 100000 in
theorem b_X9_marks_23 {C : xC} {Q : xQ} {K : xK} {I : xI} {L : xL} {z : Bool × Bool × Nat} {b : Nat × Nat} {a1 : Int32} :
  xrun k_X9_marks 1 C Q [9, 18, 23, 27, 41, 60] K 4 23 [some (.ref 66), some (.int a1), none, none, none, none] [] (xS I L z) b =
  K 27 [some (.ref 66), some (.int a1), some (.int 0), some (.int 0), none, none] [] (xS I L z) b := rfl
set_option maxRecDepth 100000 in
theorem b_X9_marks_27 {C : xC} {Q : xQ} {K : xK} {I : xI} {L : xL} {z : Bool × Bool × Nat} {b : Nat × Nat} {a1 : Int32} {a2 : Int32} {a3 : Int32} :
  xrun k_X9_marks 1 C Q [9, 18, 23, 27, 41, 60] K 8 27 [some (.ref 66), some (.int a1), some (.int a2), some (.int a3), none, none] [] (xS I L z) b =
  (if a3 < (I 66 32) then K 41 [some (.ref 66), some (.int a1), some (.int a2), some (.int a3), some (.int 0), some (.int 0)] [] (xS I L z) b else Q (some (.int a2)) (xS I L z)) := rfl
set_option maxRecDepth 100000 in
theorem b_X9_marks_41 {C : xC} {Q : xQ} {K : xK} {I : xI} {L : xL} {z : Bool × Bool × Nat} {b : Nat × Nat} {a1 : Int32} {a2 : Int32} {a3 : Int32} {a4 : Int32} {a5 : Int32} :
  xrun k_X9_marks 1 C Q [9, 18, 23, 27, 41, 60] K 12 41 [some (.ref 66), some (.int a1), some (.int a2), some (.int a3), some (.int a4), some (.int a5)] [] (xS I L z) b =
  (if a5 < (I 66 32) then C 260 [.ref 66, .int a3, .int a5, .int a1] (xS I L z) (fun r τ => K 60 [some (.ref 66), some (.int a1), some (.int a2), some (.int a3), some (.int a4), some (.int a5)] (r.toList ++ [.int a4]) τ b) else (if a2 < a4 then K 27 [some (.ref 66), some (.int a1), some (.int a4), some (.int (a3 + 1)), some (.int a4), some (.int a5)] [] (xS I L z) b else K 27 [some (.ref 66), some (.int a1), some (.int a2), some (.int (a3 + 1)), some (.int a4), some (.int a5)] [] (xS I L z) b)) := rfl
set_option maxRecDepth 100000 in
theorem b_X9_marks_60 {C : xC} {Q : xQ} {K : xK} {I : xI} {L : xL} {z : Bool × Bool × Nat} {b : Nat × Nat} {a1 : Int32} {a2 : Int32} {a3 : Int32} {a4 : Int32} {a5 : Int32} {s1 : Int32} {s0 : Int32} :
  xrun k_X9_marks 1 C Q [9, 18, 23, 27, 41, 60] K 7 60 [some (.ref 66), some (.int a1), some (.int a2), some (.int a3), some (.int a4), some (.int a5)] [.int s0, .int s1] (xS I L z) b =
  (if s0 = 0 then K 41 [some (.ref 66), some (.int a1), some (.int a2), some (.int a3), some (.int (s1 + 0)), some (.int (a5 + 1))] [] (xS I L z) b else K 41 [some (.ref 66), some (.int a1), some (.int a2), some (.int a3), some (.int (s1 + 1)), some (.int (a5 + 1))] [] (xS I L z) b) := rfl
set_option maxRecDepth 100000 in
theorem b_X9_mindOf_0 {C : xC} {Q : xQ} {K : xK} {I : xI} {L : xL} {z : Bool × Bool × Nat} {b : Nat × Nat} {a1 : Int32} {a2 : Int32} :
  xrun k_X9_mindOf 1 C Q [5, 29, 32] K 4 0 [some (.ref 66), some (.int a1), some (.int a2), none, none] [] (xS I L z) b =
  K 5 [some (.ref 66), some (.int a1), some (.int a2), some (.int 0), some (.int 0)] [] (xS I L z) b := rfl
set_option maxRecDepth 100000 in
theorem b_X9_mindOf_5 {C : xC} {Q : xQ} {K : xK} {I : xI} {L : xL} {z : Bool × Bool × Nat} {b : Nat × Nat} {a1 : Int32} {a2 : Int32} {a3 : Int32} {a4 : Int32} :
  xrun k_X9_mindOf 1 C Q [5, 29, 32] K 14 5 [some (.ref 66), some (.int a1), some (.int a2), some (.int a3), some (.int a4)] [] (xS I L z) b =
  (if a4 < (I 66 36) then (if xin a4 (720) then C 235 [.ref 66, .int (I 108 (Int32.toNatClampNeg a4)), .int a2] (xS I L z) (fun r τ => K 29 [some (.ref 66), some (.int a1), some (.int a2), some (.int a3), some (.int a4)] (r.toList ++ [.int a1, .ref 66, .int a3]) τ b) else False) else Q (some (.int a3)) (xS I L z)) := rfl
set_option maxRecDepth 100000 in
theorem b_X9_mindOf_29 {C : xC} {Q : xQ} {K : xK} {I : xI} {L : xL} {z : Bool × Bool × Nat} {b : Nat × Nat} {a1 : Int32} {a2 : Int32} {a3 : Int32} {a4 : Int32} {s3 : Int32} {s1 : Int32} {s0 : Int32} :
  xrun k_X9_mindOf 1 C Q [5, 29, 32] K 1 29 [some (.ref 66), some (.int a1), some (.int a2), some (.int a3), some (.int a4)] [.int s0, .int s1, .ref 66, .int s3] (xS I L z) b =
  C 266 [.ref 66, .int s1, .int s0] (xS I L z) (fun r τ => K 32 [some (.ref 66), some (.int a1), some (.int a2), some (.int a3), some (.int a4)] (r.toList ++ [.int s3]) τ b) := rfl
set_option maxRecDepth 100000 in
theorem b_X9_mindOf_32 {C : xC} {Q : xQ} {K : xK} {I : xI} {L : xL} {z : Bool × Bool × Nat} {b : Nat × Nat} {a1 : Int32} {a2 : Int32} {a3 : Int32} {a4 : Int32} {s1 : Int32} {s0 : Int32} :
  xrun k_X9_mindOf 1 C Q [5, 29, 32] K 7 32 [some (.ref 66), some (.int a1), some (.int a2), some (.int a3), some (.int a4)] [.int s0, .int s1] (xS I L z) b =
  (if s0 = 0 then K 5 [some (.ref 66), some (.int a1), some (.int a2), some (.int (s1 + 0)), some (.int (a4 + 1))] [] (xS I L z) b else K 5 [some (.ref 66), some (.int a1), some (.int a2), some (.int (s1 + 1)), some (.int (a4 + 1))] [] (xS I L z) b) := rfl
set_option maxRecDepth 100000 in
theorem b_X9_meanOf_0 {C : xC} {Q : xQ} {K : xK} {I : xI} {L : xL} {z : Bool × Bool × Nat} {b : Nat × Nat} {a1 : Nat} :
  xrun k_X9_meanOf 1 C Q [4, 27] K 4 0 [some (.ref 66), some (.ref a1), none, none] [] (xS I L z) b =
  K 4 [some (.ref 66), some (.ref a1), some (.int 0), some (.int 0)] [] (xS I L z) b := rfl
set_option maxRecDepth 100000 in
theorem b_X9_meanOf_4 {C : xC} {Q : xQ} {K : xK} {I : xI} {L : xL} {z : Bool × Bool × Nat} {b : Nat × Nat} {a1 : Nat} {a2 : Int32} {a3 : Int32} :
  xrun k_X9_meanOf 1 C Q [4, 27] K 15 4 [some (.ref 66), some (.ref a1), some (.int a2), some (.int a3)] [] (xS I L z) b =
  (if a3 < (I 66 9) then (if xin a3 (6) then (bif xisi (xS I L z) a1 then (if xin a3 (xlen z.2.2 (a1)) then C 267 [.ref 66, .int a3, .int (I a1 (Int32.toNatClampNeg a3))] (xS I L z) (fun r τ => K 27 [some (.ref 66), some (.ref a1), some (.int a2), some (.int a3)] (r.toList ++ [.int (I 93 (Int32.toNatClampNeg a3)), .int a2]) τ b) else False) else False) else False) else Q (some (.int a2)) (xS I L z)) := rfl
set_option maxRecDepth 100000 in
theorem b_X9_meanOf_27 {C : xC} {Q : xQ} {K : xK} {I : xI} {L : xL} {z : Bool × Bool × Nat} {b : Nat × Nat} {a1 : Nat} {a2 : Int32} {a3 : Int32} {s2 : Int32} {s1 : Int32} {s0 : Int32} :
  xrun k_X9_meanOf 1 C Q [4, 27] K 5 27 [some (.ref 66), some (.ref a1), some (.int a2), some (.int a3)] [.int s0, .int s1, .int s2] (xS I L z) b =
  K 4 [some (.ref 66), some (.ref a1), some (.int (s2 + (s1 * s0))), some (.int (a3 + 1))] [] (xS I L z) b := rfl
set_option maxRecDepth 100000 in
theorem b_X9_seekBest_0 {C : xC} {Q : xQ} {K : xK} {I : xI} {L : xL} {z : Bool × Bool × Nat} {b : Nat × Nat} {a1 : Int32} {a2 : Int32} {a3 : Int32} :
  xrun k_X9_seekBest 0 C Q [40, 44, 59, 94, 99] K 20 0 [some (.ref 66), some (.int a1), some (.int a2), some (.int a3), none] [] (xS I L z) b =
  (if a1 = (I 66 9) then (if (I 66 39) = (-1 : Int32) then C 294 [.ref 109, .ref 110] (xS (xw I 66 39 a3) L z) (fun r τ => K 40 [some (.ref 66), some (.int a1), some (.int a2), some (.int a3), none] (r.toList ++ []) τ b) else (if a3 < (I 66 39) then C 294 [.ref 109, .ref 110] (xS (xw I 66 39 a3) L z) (fun r τ => K 40 [some (.ref 66), some (.int a1), some (.int a2), some (.int a3), none] (r.toList ++ []) τ b) else K 40 [some (.ref 66), some (.int a1), some (.int a2), some (.int a3), none] [] (xS I L z) b)) else K 44 [some (.ref 66), some (.int a1), some (.int a2), some (.int a3), some (.int 0)] [] (xS I L z) b) := rfl
set_option maxRecDepth 100000 in
theorem b_X9_seekBest_40 {C : xC} {Q : xQ} {K : xK} {I : xI} {L : xL} {z : Bool × Bool × Nat} {b : Nat × Nat} {a1 : Int32} {a2 : Int32} {a3 : Int32} :
  xrun k_X9_seekBest 0 C Q [40, 44, 59, 94, 99] K 1 40 [some (.ref 66), some (.int a1), some (.int a2), some (.int a3), none] [] (xS I L z) b =
  Q none (xS I L z) := rfl
set_option maxRecDepth 100000 in
theorem b_X9_seekBest_44 {C : xC} {Q : xQ} {K : xK} {I : xI} {L : xL} {z : Bool × Bool × Nat} {b : Nat × Nat} {a1 : Int32} {a2 : Int32} {a3 : Int32} {a4 : Int32} :
  xrun k_X9_seekBest 0 C Q [40, 44, 59, 94, 99] K 7 44 [some (.ref 66), some (.int a1), some (.int a2), some (.int a3), some (.int a4)] [] (xS I L z) b =
  (if a4 < (I 66 9) then C 191 [.int a2, .int a4] (xS I L z) (fun r τ => K 59 [some (.ref 66), some (.int a1), some (.int a2), some (.int a3), some (.int a4)] (r.toList ++ []) τ b) else Q none (xS I L z)) := rfl
set_option maxRecDepth 100000 in
theorem b_X9_seekBest_59 {C : xC} {Q : xQ} {K : xK} {I : xI} {L : xL} {z : Bool × Bool × Nat} {b : Nat × Nat} {a1 : Int32} {a2 : Int32} {a3 : Int32} {a4 : Int32} {s0 : Int32} :
  xrun k_X9_seekBest 0 C Q [40, 44, 59, 94, 99] K 24 59 [some (.ref 66), some (.int a1), some (.int a2), some (.int a3), some (.int a4)] [.int s0] (xS I L z) b =
  (if s0 = 0 then (if xin a1 (6) then (if xin a1 (6) then C 267 [.ref 66, .int a1, .int a4] (xS (xw I 109 (Int32.toNatClampNeg a1) a4) L z) (fun r τ => K 94 [some (.ref 66), some (.int a1), some (.int a2), some (.int a3), some (.int a4)] (r.toList ++ [.int ((xw I 109 (Int32.toNatClampNeg a1) a4) 93 (Int32.toNatClampNeg a1)), .int a3, .int (a2 ||| (1 <<< (a4 &&& 31))), .int (a1 + 1), .ref 66]) τ b) else False) else False) else K 99 [some (.ref 66), some (.int a1), some (.int a2), some (.int a3), some (.int a4)] [] (xS I L z) b) := rfl
set_option maxRecDepth 100000 in
theorem b_X9_seekBest_94 {C : xC} {Q : xQ} {K : xK} {I : xI} {L : xL} {z : Bool × Bool × Nat} {b : Nat × Nat} {a1 : Int32} {a2 : Int32} {a3 : Int32} {a4 : Int32} {s4 : Int32} {s3 : Int32} {s2 : Int32} {s1 : Int32} {s0 : Int32} :
  xrun k_X9_seekBest 0 C Q [40, 44, 59, 94, 99] K 3 94 [some (.ref 66), some (.int a1), some (.int a2), some (.int a3), some (.int a4)] [.int s0, .int s1, .int s2, .int s3, .int s4, .ref 66] (xS I L z) b =
  C 269 [.ref 66, .int s4, .int s3, .int (s2 + (s1 * s0))] (xS I L z) (fun r τ => K 99 [some (.ref 66), some (.int a1), some (.int a2), some (.int a3), some (.int a4)] (r.toList ++ []) τ b) := rfl
set_option maxRecDepth 100000 in
theorem b_X9_seekBest_99 {C : xC} {Q : xQ} {K : xK} {I : xI} {L : xL} {z : Bool × Bool × Nat} {b : Nat × Nat} {a1 : Int32} {a2 : Int32} {a3 : Int32} {a4 : Int32} :
  xrun k_X9_seekBest 0 C Q [40, 44, 59, 94, 99] K 2 99 [some (.ref 66), some (.int a1), some (.int a2), some (.int a3), some (.int a4)] [] (xS I L z) b =
  K 44 [some (.ref 66), some (.int a1), some (.int a2), some (.int a3), some (.int (a4 + 1))] [] (xS I L z) b := rfl
set_option maxRecDepth 100000 in
theorem b_X9_findBest_0 {C : xC} {Q : xQ} {K : xK} {I : xI} {L : xL} {z : Bool × Bool × Nat} {b : Nat × Nat}  :
  xrun k_X9_findBest 0 C Q [12] K 8 0 [some (.ref 66)] [] (xS I L z) b =
  C 269 [.ref 66, .int 0, .int 0, .int 0] (xS (xw I 66 39 (-1 : Int32)) L z) (fun r τ => K 12 [some (.ref 66)] (r.toList ++ []) τ b) := rfl
set_option maxRecDepth 100000 in
theorem b_X9_findBest_12 {C : xC} {Q : xQ} {K : xK} {I : xI} {L : xL} {z : Bool × Bool × Nat} {b : Nat × Nat}  :
  xrun k_X9_findBest 0 C Q [12] K 1 12 [some (.ref 66)] [] (xS I L z) b =
  Q none (xS I L z) := rfl
set_option maxRecDepth 100000 in
theorem b_X9_wrongIn_0 {C : xC} {Q : xQ} {K : xK} {I : xI} {L : xL} {z : Bool × Bool × Nat} {b : Nat × Nat} {a1 : Nat} :
  xrun k_X9_wrongIn 1 C Q [4, 19, 30] K 4 0 [some (.ref 66), some (.ref a1), none, none] [] (xS I L z) b =
  K 4 [some (.ref 66), some (.ref a1), some (.int 0), some (.int 0)] [] (xS I L z) b := rfl
set_option maxRecDepth 100000 in
theorem b_X9_wrongIn_4 {C : xC} {Q : xQ} {K : xK} {I : xI} {L : xL} {z : Bool × Bool × Nat} {b : Nat × Nat} {a1 : Nat} {a2 : Int32} {a3 : Int32} :
  xrun k_X9_wrongIn 1 C Q [4, 19, 30] K 9 4 [some (.ref 66), some (.ref a1), some (.int a2), some (.int a3)] [] (xS I L z) b =
  (if a3 < (I 66 9) then (bif xis (xS I L z) a1 21 then (if xin a3 (xlen z.2.2 (a1)) then C 189 [.ref 66, .long (L a1 (Int32.toNatClampNeg a3))] (xS I L z) (fun r τ => K 19 [some (.ref 66), some (.ref a1), some (.int a2), some (.int a3)] (r.toList ++ []) τ b) else False) else False) else Q (some (.int (-1 : Int32))) (xS I L z)) := rfl
set_option maxRecDepth 100000 in
theorem b_X9_wrongIn_19 {C : xC} {Q : xQ} {K : xK} {I : xI} {L : xL} {z : Bool × Bool × Nat} {b : Nat × Nat} {a1 : Nat} {a2 : Int32} {a3 : Int32} {s0 : Int32} :
  xrun k_X9_wrongIn 1 C Q [4, 19, 30] K 7 19 [some (.ref 66), some (.ref a1), some (.int a2), some (.int a3)] [.int s0] (xS I L z) b =
  (if s0 = 0 then Q (some (.int a3)) (xS I L z) else (bif xis (xS I L z) a1 21 then (if xin a3 (xlen z.2.2 (a1)) then C 191 [.int a2, .int (Int64.toInt32 (L a1 (Int32.toNatClampNeg a3)))] (xS I L z) (fun r τ => K 30 [some (.ref 66), some (.ref a1), some (.int a2), some (.int a3)] (r.toList ++ []) τ b) else False) else False)) := rfl
set_option maxRecDepth 100000 in
theorem b_X9_wrongIn_30 {C : xC} {Q : xQ} {K : xK} {I : xI} {L : xL} {z : Bool × Bool × Nat} {b : Nat × Nat} {a1 : Nat} {a2 : Int32} {a3 : Int32} {s0 : Int32} :
  xrun k_X9_wrongIn 1 C Q [4, 19, 30] K 20 30 [some (.ref 66), some (.ref a1), some (.int a2), some (.int a3)] [.int s0] (xS I L z) b =
  (if s0 = 0 then (bif xis (xS I L z) a1 21 then (if xin a3 (xlen z.2.2 (a1)) then (if xin a3 (6) then (if xin a3 (6) then K 4 [some (.ref 66), some (.ref a1), some (.int (a2 ||| (1 <<< (((xw I 109 (Int32.toNatClampNeg a3) (Int64.toInt32 (L a1 (Int32.toNatClampNeg a3)))) 109 (Int32.toNatClampNeg a3)) &&& 31)))), some (.int (a3 + 1))] [] (xS (xw I 109 (Int32.toNatClampNeg a3) (Int64.toInt32 (L a1 (Int32.toNatClampNeg a3)))) L z) b else False) else False) else False) else False) else Q (some (.int a3)) (xS I L z)) := rfl
set_option maxRecDepth 100000 in
theorem b_X9_judge_0 {C : xC} {Q : xQ} {K : xK} {I : xI} {L : xL} {z : Bool × Bool × Nat} {b : Nat × Nat} {a1 : Int32} :
  xrun k_X9_judge 1 C Q [5, 24] K 3 0 [some (.ref 66), some (.int a1), none] [] (xS I L z) b =
  C 207 [.ref 66, .int a1] (xS I L z) (fun r τ => K 5 [some (.ref 66), some (.int a1), none] (r.toList ++ []) τ b) := rfl
set_option maxRecDepth 100000 in
theorem b_X9_judge_5 {C : xC} {Q : xQ} {K : xK} {I : xI} {L : xL} {z : Bool × Bool × Nat} {b : Nat × Nat} {a1 : Int32} {s0 : Int32} :
  xrun k_X9_judge 1 C Q [5, 24] K 9 5 [some (.ref 66), some (.int a1), none] [.int s0] (xS I L z) b =
  (if s0 = 0 then (if xin a1 (8) then C 271 [.ref 66, .ref (70 + 1 + Int32.toNatClampNeg a1)] (xS I L z) (fun r τ => K 24 [some (.ref 66), some (.int a1), some (.int s0)] (r.toList ++ []) τ b) else False) else K 24 [some (.ref 66), some (.int a1), some (.int s0)] [.int s0] (xS I L z) b) := rfl
set_option maxRecDepth 100000 in
theorem b_X9_judge_24 {C : xC} {Q : xQ} {K : xK} {I : xI} {L : xL} {z : Bool × Bool × Nat} {b : Nat × Nat} {a1 : Int32} {a2 : Int32} {s0 : Int32} :
  xrun k_X9_judge 1 C Q [5, 24] K 1 24 [some (.ref 66), some (.int a1), some (.int a2)] [.int s0] (xS I L z) b =
  Q (some (.int s0)) (xS I L z) := rfl
set_option maxRecDepth 100000 in
theorem b_X9_swapsTo_0 {C : xC} {Q : xQ} {K : xK} {I : xI} {L : xL} {z : Bool × Bool × Nat} {b : Nat × Nat}  :
  xrun k_X9_swapsTo 1 C Q [9, 22, 31, 37, 58] K 7 0 [some (.ref 66), none, none, none, none] [] (xS I L z) b =
  K 9 [some (.ref 66), some (.int (I 66 9)), some (.int 0), some (.int 0), none] [] (xS I L z) b := rfl
set_option maxRecDepth 100000 in
theorem b_X9_swapsTo_9 {C : xC} {Q : xQ} {K : xK} {I : xI} {L : xL} {z : Bool × Bool × Nat} {b : Nat × Nat} {a1 : Int32} {a2 : Int32} {a3 : Int32} :
  xrun k_X9_swapsTo 1 C Q [9, 22, 31, 37, 58] K 7 9 [some (.ref 66), some (.int a1), some (.int a2), some (.int a3), none] [] (xS I L z) b =
  (if a3 < (I 66 9) then C 191 [.int a2, .int a3] (xS I L z) (fun r τ => K 22 [some (.ref 66), some (.int a1), some (.int a2), some (.int a3), none] (r.toList ++ []) τ b) else Q (some (.int a1)) (xS I L z)) := rfl
set_option maxRecDepth 100000 in
theorem b_X9_swapsTo_22 {C : xC} {Q : xQ} {K : xK} {I : xI} {L : xL} {z : Bool × Bool × Nat} {b : Nat × Nat} {a1 : Int32} {a2 : Int32} {a3 : Int32} {s0 : Int32} :
  xrun k_X9_swapsTo 1 C Q [9, 22, 31, 37, 58] K 4 22 [some (.ref 66), some (.int a1), some (.int a2), some (.int a3), none] [.int s0] (xS I L z) b =
  (if s0 = 0 then K 31 [some (.ref 66), some (.int (a1 + (-1 : Int32))), some (.int a2), some (.int a3), some (.int a3)] [] (xS I L z) b else K 9 [some (.ref 66), some (.int a1), some (.int a2), some (.int (a3 + 1)), none] [] (xS I L z) b) := rfl
set_option maxRecDepth 100000 in
theorem b_X9_swapsTo_31 {C : xC} {Q : xQ} {K : xK} {I : xI} {L : xL} {z : Bool × Bool × Nat} {b : Nat × Nat} {a1 : Int32} {a2 : Int32} {a3 : Int32} {a4 : Int32} :
  xrun k_X9_swapsTo 1 C Q [9, 22, 31, 37, 58] K 3 31 [some (.ref 66), some (.int a1), some (.int a2), some (.int a3), some (.int a4)] [] (xS I L z) b =
  C 191 [.int a2, .int a4] (xS I L z) (fun r τ => K 37 [some (.ref 66), some (.int a1), some (.int a2), some (.int a3), some (.int a4)] (r.toList ++ []) τ b) := rfl
set_option maxRecDepth 100000 in
theorem b_X9_swapsTo_37 {C : xC} {Q : xQ} {K : xK} {I : xI} {L : xL} {z : Bool × Bool × Nat} {b : Nat × Nat} {a1 : Int32} {a2 : Int32} {a3 : Int32} {a4 : Int32} {s0 : Int32} :
  xrun k_X9_swapsTo 1 C Q [9, 22, 31, 37, 58] K 13 37 [some (.ref 66), some (.int a1), some (.int a2), some (.int a3), some (.int a4)] [.int s0] (xS I L z) b =
  (if s0 = 0 then (if xin a4 (6) then C 274 [.ref 66, .int (I 111 (Int32.toNatClampNeg a4))] (xS I L z) (fun r τ => K 58 [some (.ref 66), some (.int a1), some (.int (a2 ||| (1 <<< (a4 &&& 31)))), some (.int a3), some (.int a4)] (r.toList ++ []) τ b) else False) else K 9 [some (.ref 66), some (.int a1), some (.int a2), some (.int (a3 + 1)), some (.int a4)] [] (xS I L z) b) := rfl
set_option maxRecDepth 100000 in
theorem b_X9_swapsTo_58 {C : xC} {Q : xQ} {K : xK} {I : xI} {L : xL} {z : Bool × Bool × Nat} {b : Nat × Nat} {a1 : Int32} {a2 : Int32} {a3 : Int32} {a4 : Int32} {s0 : Int32} :
  xrun k_X9_swapsTo 1 C Q [9, 22, 31, 37, 58] K 2 58 [some (.ref 66), some (.int a1), some (.int a2), some (.int a3), some (.int a4)] [.int s0] (xS I L z) b =
  K 31 [some (.ref 66), some (.int a1), some (.int a2), some (.int a3), some (.int s0)] [] (xS I L z) b := rfl
