def h_X9_turnerSays_0 (d : Nat) (F : xQ) (b : Nat × Nat) (I : xI) (L : xL) (z : Bool × Bool × Nat)  : Prop := xEX k_X9_turnerSays 1 (xCd d) F 0 [some (.ref 66), none, none] [] (xS I L z) b
def h_X9_turnerSays_4 (d : Nat) (F : xQ) (b : Nat × Nat) (I : xI) (L : xL) (z : Bool × Bool × Nat) (a1 : Int32) (a2 : Int32) : Prop := xEX k_X9_turnerSays 1 (xCd d) F 4 [some (.ref 66), some (.int a1), some (.int a2)] [] (xS I L z) b
def h_X9_turnerSays_18 (d : Nat) (F : xQ) (b : Nat × Nat) (I : xI) (L : xL) (z : Bool × Bool × Nat) (a1 : Int32) (a2 : Int32) (s0 : Int32) : Prop := xEX k_X9_turnerSays 1 (xCd d) F 18 [some (.ref 66), some (.int a1), some (.int a2)] [.int s0] (xS I L z) b
def h_X9_turnerSays_24 (d : Nat) (F : xQ) (b : Nat × Nat) (I : xI) (L : xL) (z : Bool × Bool × Nat) (a1 : Int32) (a2 : Int32) (s1 : Int32) (s0 : Int32) : Prop := xEX k_X9_turnerSays 1 (xCd d) F 24 [some (.ref 66), some (.int a1), some (.int a2)] [.int s0, .int s1] (xS I L z) b
def h_X9_turnerSays_45 (d : Nat) (F : xQ) (b : Nat × Nat) (I : xI) (L : xL) (z : Bool × Bool × Nat) (a1 : Int32) (a2 : Int32) (s0 : Int32) : Prop := xEX k_X9_turnerSays 1 (xCd d) F 45 [some (.ref 66), some (.int a1), some (.int a2)] [.int s0] (xS I L z) b
set_option maxRecDepth 100000 in
theorem g_X9_turnerSays_0 {d : Nat} {F : xQ} {b : Nat × Nat} {I : xI} {L : xL} {z : Bool × Bool × Nat}  (hd : 0 ≤ d) (h : h_X9_turnerSays_4 d F b I L z 0 1) : h_X9_turnerSays_0 d F b I L z  :=
  (xgo b_X9_turnerSays_0 h)
theorem c_X9_turnerSays {d : Nat} {F : xQ} {I : xI} {L : xL} {z : Bool × Bool × Nat}  (h : h_X9_turnerSays_0 d F (0, 0) I L z ) : xCd (d + 1) 280 [.ref 66] (xS I L z) F :=
  xin_ (T := k_X9_turnerSays) (rt := 1) (ls := [some (.ref 66), none, none]) rfl rfl rfl rfl h
set_option maxRecDepth 100000 in
theorem g_X9_turnerSays_4 {d : Nat} {F : xQ} {b : Nat × Nat} {I : xI} {L : xL} {z : Bool × Bool × Nat} {a1 : Int32} {a2 : Int32} (hd : 0 ≤ d) (h : (if a2 < (I 66 9) then xCd d 252 [.ref 66, .int a2, .int 0] (xS I L z) (fun r τ => xEX k_X9_turnerSays 1 (xCd d) F 18 [some (.ref 66), some (.int a1), some (.int a2)] (r.toList ++ []) τ b) else xCd d 252 [.ref 66, .int a1, .int 0] (xS I L z) (fun r τ => xEX k_X9_turnerSays 1 (xCd d) F 45 [some (.ref 66), some (.int a1), some (.int a2)] (r.toList ++ []) τ b))) : h_X9_turnerSays_4 d F b I L z a1 a2 :=
  (xgo b_X9_turnerSays_4 h)
set_option maxRecDepth 100000 in
theorem g_X9_turnerSays_18 {d : Nat} {F : xQ} {b : Nat × Nat} {I : xI} {L : xL} {z : Bool × Bool × Nat} {a1 : Int32} {a2 : Int32} {s0 : Int32} (hd : 0 ≤ d) (h : xCd d 252 [.ref 66, .int a1, .int 0] (xS I L z) (fun r τ => xEX k_X9_turnerSays 1 (xCd d) F 24 [some (.ref 66), some (.int a1), some (.int a2)] (r.toList ++ [.int s0]) τ b)) : h_X9_turnerSays_18 d F b I L z a1 a2 s0 :=
  (xgo b_X9_turnerSays_18 h)
set_option maxRecDepth 100000 in
theorem g_X9_turnerSays_24 {d : Nat} {F : xQ} {b : Nat × Nat} {I : xI} {L : xL} {z : Bool × Bool × Nat} {a1 : Int32} {a2 : Int32} {s1 : Int32} {s0 : Int32} (hd : 0 ≤ d) (h : (if s0 < s1 then h_X9_turnerSays_4 d F b I L z a2 (a2 + 1) else h_X9_turnerSays_4 d F b I L z a1 (a2 + 1))) : h_X9_turnerSays_24 d F b I L z a1 a2 s1 s0 :=
  (xgo b_X9_turnerSays_24 h)
set_option maxRecDepth 100000 in
theorem g_X9_turnerSays_45 {d : Nat} {F : xQ} {b : Nat × Nat} {I : xI} {L : xL} {z : Bool × Bool × Nat} {a1 : Int32} {a2 : Int32} {s0 : Int32} (hd : 0 ≤ d) (h : (if s0 = 1 then F (some (.int (-1 : Int32))) (xS I L z) else F (some (.int (10 * a1))) (xS I L z))) : h_X9_turnerSays_45 d F b I L z a1 a2 s0 :=
  (xgo b_X9_turnerSays_45 h)
def h_X9_handerSays_0 (d : Nat) (F : xQ) (b : Nat × Nat) (I : xI) (L : xL) (z : Bool × Bool × Nat)  : Prop := xEX k_X9_handerSays 1 (xCd d) F 0 [some (.ref 66), none, none] [] (xS I L z) b
def h_X9_handerSays_4 (d : Nat) (F : xQ) (b : Nat × Nat) (I : xI) (L : xL) (z : Bool × Bool × Nat) (a1 : Int32) (a2 : Int32) : Prop := xEX k_X9_handerSays 1 (xCd d) F 4 [some (.ref 66), some (.int a1), some (.int a2)] [] (xS I L z) b
def h_X9_handerSays_43 (d : Nat) (F : xQ) (b : Nat × Nat) (I : xI) (L : xL) (z : Bool × Bool × Nat) (a1 : Int32) (a2 : Int32) : Prop := xEX k_X9_handerSays 1 (xCd d) F 43 [some (.ref 66), some (.int a1), some (.int a2)] [] (xS I L z) b
def h_X9_handerSays_57 (d : Nat) (F : xQ) (b : Nat × Nat) (I : xI) (L : xL) (z : Bool × Bool × Nat) (a1 : Int32) (a2 : Int32) (s1 : Int32) (s0 : Int32) : Prop := xEX k_X9_handerSays 1 (xCd d) F 57 [some (.ref 66), some (.int a1), some (.int a2)] [.int s0, .int s1] (xS I L z) b
def h_X9_handerSays_64 (d : Nat) (F : xQ) (b : Nat × Nat) (I : xI) (L : xL) (z : Bool × Bool × Nat) (a1 : Int32) (a2 : Int32) (s1 : Int32) (s0 : Int32) : Prop := xEX k_X9_handerSays 1 (xCd d) F 64 [some (.ref 66), some (.int a1), some (.int a2)] [.int s0, .int s1] (xS I L z) b
set_option maxRecDepth 100000 in
theorem g_X9_handerSays_0 {d : Nat} {F : xQ} {b : Nat × Nat} {I : xI} {L : xL} {z : Bool × Bool × Nat}  (hd : 0 ≤ d) (h : h_X9_handerSays_4 d F b I L z 0 1) : h_X9_handerSays_0 d F b I L z  :=
  (xgo b_X9_handerSays_0 h)
theorem c_X9_handerSays {d : Nat} {F : xQ} {I : xI} {L : xL} {z : Bool × Bool × Nat}  (h : h_X9_handerSays_0 d F (0, 0) I L z ) : xCd (d + 1) 281 [.ref 66] (xS I L z) F :=
  xin_ (T := k_X9_handerSays) (rt := 1) (ls := [some (.ref 66), none, none]) rfl rfl rfl rfl h
set_option maxRecDepth 100000 in
theorem g_X9_handerSays_4 {d : Nat} {F : xQ} {b : Nat × Nat} {I : xI} {L : xL} {z : Bool × Bool × Nat} {a1 : Int32} {a2 : Int32} (hd : 0 ≤ d) (h : (if a2 < (I 66 9) then (if xin a2 (6) then (if xin a1 (6) then (if (I 93 (Int32.toNatClampNeg a1)) < (I 93 (Int32.toNatClampNeg a2)) then h_X9_handerSays_4 d F b I L z a2 (a2 + 1) else h_X9_handerSays_4 d F b I L z a1 (a2 + 1)) else False) else False) else xCd d 270 [.ref 66] (xS I L z) (fun r τ => xEX k_X9_handerSays 1 (xCd d) F 43 [some (.ref 66), some (.int a1), some (.int a2)] (r.toList ++ []) τ b))) : h_X9_handerSays_4 d F b I L z a1 a2 :=
  (xgo b_X9_handerSays_4 h)
set_option maxRecDepth 100000 in
theorem g_X9_handerSays_43 {d : Nat} {F : xQ} {b : Nat × Nat} {I : xI} {L : xL} {z : Bool × Bool × Nat} {a1 : Int32} {a2 : Int32} (hd : 0 ≤ d) (h : (if xin a1 (6) then xCd d 250 [.ref 66, .int (I 110 (Int32.toNatClampNeg a1))] (xS I L z) (fun r τ => xEX k_X9_handerSays 1 (xCd d) F 57 [some (.ref 66), some (.int a1), some (.int (I 110 (Int32.toNatClampNeg a1)))] (r.toList ++ [.int 10]) τ b) else False)) : h_X9_handerSays_43 d F b I L z a1 a2 :=
  (xgo b_X9_handerSays_43 h)
set_option maxRecDepth 100000 in
theorem g_X9_handerSays_57 {d : Nat} {F : xQ} {b : Nat × Nat} {I : xI} {L : xL} {z : Bool × Bool × Nat} {a1 : Int32} {a2 : Int32} {s1 : Int32} {s0 : Int32} (hd : 0 ≤ d) (h : (if s0 = 0 then F (some (.int ((s1 * a2) + 3))) (xS I L z) else xCd d 279 [.ref 66] (xS I L z) (fun r τ => xEX k_X9_handerSays 1 (xCd d) F 64 [some (.ref 66), some (.int a1), some (.int a2)] (r.toList ++ [.int s1]) τ b))) : h_X9_handerSays_57 d F b I L z a1 a2 s1 s0 :=
  (xgo b_X9_handerSays_57 h)
set_option maxRecDepth 100000 in
theorem g_X9_handerSays_64 {d : Nat} {F : xQ} {b : Nat × Nat} {I : xI} {L : xL} {z : Bool × Bool × Nat} {a1 : Int32} {a2 : Int32} {s1 : Int32} {s0 : Int32} (hd : 0 ≤ d) (h : F (some (.int ((s1 * s0) + 3))) (xS I L z)) : h_X9_handerSays_64 d F b I L z a1 a2 s1 s0 :=
  (xgo b_X9_handerSays_64 h)
def h_X9_toldBy_0 (d : Nat) (F : xQ) (b : Nat × Nat) (I : xI) (L : xL) (z : Bool × Bool × Nat) (a1 : Int32) : Prop := xEX k_X9_toldBy 1 (xCd d) F 0 [some (.ref 66), some (.int a1), none] [] (xS I L z) b
def h_X9_toldBy_4 (d : Nat) (F : xQ) (b : Nat × Nat) (I : xI) (L : xL) (z : Bool × Bool × Nat) (a1 : Int32) : Prop := xEX k_X9_toldBy 1 (xCd d) F 4 [some (.ref 66), some (.int a1), none] [] (xS I L z) b
def h_X9_toldBy_60 (d : Nat) (F : xQ) (b : Nat × Nat) (I : xI) (L : xL) (z : Bool × Bool × Nat) (a1 : Int32) (s0 : Int32) : Prop := xEX k_X9_toldBy 1 (xCd d) F 60 [some (.ref 66), some (.int a1), none] [.int s0] (xS I L z) b
def h_X9_toldBy_67 (d : Nat) (F : xQ) (b : Nat × Nat) (I : xI) (L : xL) (z : Bool × Bool × Nat) (a1 : Int32) (s1 : Int32) (s0 : Int32) : Prop := xEX k_X9_toldBy 1 (xCd d) F 67 [some (.ref 66), some (.int a1), none] [.int s0, .int s1] (xS I L z) b
def h_X9_toldBy_77 (d : Nat) (F : xQ) (b : Nat × Nat) (I : xI) (L : xL) (z : Bool × Bool × Nat) (a1 : Int32) (s0 : Int32) : Prop := xEX k_X9_toldBy 1 (xCd d) F 77 [some (.ref 66), some (.int a1), none] [.int s0] (xS I L z) b
def h_X9_toldBy_84 (d : Nat) (F : xQ) (b : Nat × Nat) (I : xI) (L : xL) (z : Bool × Bool × Nat) (a1 : Int32) (s0 : Int32) : Prop := xEX k_X9_toldBy 1 (xCd d) F 84 [some (.ref 66), some (.int a1), none] [.int s0] (xS I L z) b
def h_X9_toldBy_97 (d : Nat) (F : xQ) (b : Nat × Nat) (I : xI) (L : xL) (z : Bool × Bool × Nat) (a1 : Int32) (a2 : Int32) (s0 : Int32) : Prop := xEX k_X9_toldBy 1 (xCd d) F 97 [some (.ref 66), some (.int a1), some (.int a2)] [.int s0] (xS I L z) b
def h_X9_toldBy_114 (d : Nat) (F : xQ) (b : Nat × Nat) (I : xI) (L : xL) (z : Bool × Bool × Nat) (a1 : Int32) (a2 : Int32) (s0 : Int32) : Prop := xEX k_X9_toldBy 1 (xCd d) F 114 [some (.ref 66), some (.int a1), some (.int a2)] [.int s0] (xS I L z) b
def h_X9_toldBy_119 (d : Nat) (F : xQ) (b : Nat × Nat) (I : xI) (L : xL) (z : Bool × Bool × Nat) (a1 : Int32) (s0 : Int32) : Prop := xEX k_X9_toldBy 1 (xCd d) F 119 [some (.ref 66), some (.int a1), none] [.int s0] (xS I L z) b
def h_X9_toldBy_126 (d : Nat) (F : xQ) (b : Nat × Nat) (I : xI) (L : xL) (z : Bool × Bool × Nat) (a1 : Int32) (s1 : Int32) (s0 : Int32) : Prop := xEX k_X9_toldBy 1 (xCd d) F 126 [some (.ref 66), some (.int a1), none] [.int s0, .int s1] (xS I L z) b
set_option maxRecDepth 100000 in
theorem g_X9_toldBy_0 {d : Nat} {F : xQ} {b : Nat × Nat} {I : xI} {L : xL} {z : Bool × Bool × Nat} {a1 : Int32} (hd : 0 ≤ d) (h : xCd d 244 [.ref 66] (xS I L z) (fun r τ => xEX k_X9_toldBy 1 (xCd d) F 4 [some (.ref 66), some (.int a1), none] (r.toList ++ []) τ b)) : h_X9_toldBy_0 d F b I L z a1 :=
  (xgo b_X9_toldBy_0 h)
theorem c_X9_toldBy {d : Nat} {F : xQ} {I : xI} {L : xL} {z : Bool × Bool × Nat} {a1 : Int32} (h : h_X9_toldBy_0 d F (0, 0) I L z a1) : xCd (d + 1) 282 [.ref 66, .int a1] (xS I L z) F :=
  xin_ (T := k_X9_toldBy) (rt := 1) (ls := [some (.ref 66), some (.int a1), none]) rfl rfl rfl rfl h
set_option maxRecDepth 100000 in
theorem g_X9_toldBy_4 {d : Nat} {F : xQ} {b : Nat × Nat} {I : xI} {L : xL} {z : Bool × Bool × Nat} {a1 : Int32} (hd : 0 ≤ d) (h : (if (I 66 36) < 2 then F (some (.int (-1 : Int32))) (xS I L z) else (if xin a1 (4) then (if (I 101 (Int32.toNatClampNeg a1)) = 1 then xCd d 280 [.ref 66] (xS I L z) (fun r τ => xEX k_X9_toldBy 1 (xCd d) F 60 [some (.ref 66), some (.int a1), none] (r.toList ++ []) τ b) else (if (I 101 (Int32.toNatClampNeg a1)) = 2 then xCd d 279 [.ref 66] (xS I L z) (fun r τ => xEX k_X9_toldBy 1 (xCd d) F 67 [some (.ref 66), some (.int a1), none] (r.toList ++ [.int 10]) τ b) else (if (I 101 (Int32.toNatClampNeg a1)) = 3 then xCd d 255 [.ref 66, .int 7] (xS I L z) (fun r τ => xEX k_X9_toldBy 1 (xCd d) F 77 [some (.ref 66), some (.int a1), none] (r.toList ++ []) τ b) else (if (I 101 (Int32.toNatClampNeg a1)) = 4 then xCd d 255 [.ref 66, .int 7] (xS I L z) (fun r τ => xEX k_X9_toldBy 1 (xCd d) F 84 [some (.ref 66), some (.int a1), none] (r.toList ++ []) τ b) else (if (I 101 (Int32.toNatClampNeg a1)) = 5 then xCd d 281 [.ref 66] (xS I L z) (fun r τ => xEX k_X9_toldBy 1 (xCd d) F 119 [some (.ref 66), some (.int a1), none] (r.toList ++ []) τ b) else xCd d 279 [.ref 66] (xS I L z) (fun r τ => xEX k_X9_toldBy 1 (xCd d) F 126 [some (.ref 66), some (.int a1), none] (r.toList ++ [.int 10]) τ b)))))) else False))) : h_X9_toldBy_4 d F b I L z a1 :=
  (xgo b_X9_toldBy_4 h)
set_option maxRecDepth 100000 in
theorem g_X9_toldBy_60 {d : Nat} {F : xQ} {b : Nat × Nat} {I : xI} {L : xL} {z : Bool × Bool × Nat} {a1 : Int32} {s0 : Int32} (hd : 0 ≤ d) (h : F (some (.int s0)) (xS I L z)) : h_X9_toldBy_60 d F b I L z a1 s0 :=
  (xgo b_X9_toldBy_60 h)
set_option maxRecDepth 100000 in
theorem g_X9_toldBy_67 {d : Nat} {F : xQ} {b : Nat × Nat} {I : xI} {L : xL} {z : Bool × Bool × Nat} {a1 : Int32} {s1 : Int32} {s0 : Int32} (hd : 0 ≤ d) (h : F (some (.int ((s1 * s0) + 3))) (xS I L z)) : h_X9_toldBy_67 d F b I L z a1 s1 s0 :=
  (xgo b_X9_toldBy_67 h)
set_option maxRecDepth 100000 in
theorem g_X9_toldBy_77 {d : Nat} {F : xQ} {b : Nat × Nat} {I : xI} {L : xL} {z : Bool × Bool × Nat} {a1 : Int32} {s0 : Int32} (hd : 0 ≤ d) (h : F (some (.int s0)) (xS I L z)) : h_X9_toldBy_77 d F b I L z a1 s0 :=
  (xgo b_X9_toldBy_77 h)
set_option maxRecDepth 100000 in
theorem g_X9_toldBy_84 {d : Nat} {F : xQ} {b : Nat × Nat} {I : xI} {L : xL} {z : Bool × Bool × Nat} {a1 : Int32} {s0 : Int32} (hd : 0 ≤ d) (h : xCd d 253 [.ref 66, .int (s0 / 10), .int (s0 - s0 / 10 * 10)] (xS I L z) (fun r τ => xEX k_X9_toldBy 1 (xCd d) F 97 [some (.ref 66), some (.int a1), some (.int s0)] (r.toList ++ []) τ b)) : h_X9_toldBy_84 d F b I L z a1 s0 :=
  (xgo b_X9_toldBy_84 h)
set_option maxRecDepth 100000 in
theorem g_X9_toldBy_97 {d : Nat} {F : xQ} {b : Nat × Nat} {I : xI} {L : xL} {z : Bool × Bool × Nat} {a1 : Int32} {a2 : Int32} {s0 : Int32} (hd : 0 ≤ d) (h : (if s0 < (I 66 36) then h_X9_toldBy_114 d F b I L z a1 a2 a2 else xCd d 255 [.ref 66, .int 8] (xS I L z) (fun r τ => xEX k_X9_toldBy 1 (xCd d) F 114 [some (.ref 66), some (.int a1), some (.int a2)] (r.toList ++ []) τ b))) : h_X9_toldBy_97 d F b I L z a1 a2 s0 :=
  (xgo b_X9_toldBy_97 h)
set_option maxRecDepth 100000 in
theorem g_X9_toldBy_114 {d : Nat} {F : xQ} {b : Nat × Nat} {I : xI} {L : xL} {z : Bool × Bool × Nat} {a1 : Int32} {a2 : Int32} {s0 : Int32} (hd : 0 ≤ d) (h : F (some (.int s0)) (xS I L z)) : h_X9_toldBy_114 d F b I L z a1 a2 s0 :=
  (xgo b_X9_toldBy_114 h)
set_option maxRecDepth 100000 in
theorem g_X9_toldBy_119 {d : Nat} {F : xQ} {b : Nat × Nat} {I : xI} {L : xL} {z : Bool × Bool × Nat} {a1 : Int32} {s0 : Int32} (hd : 0 ≤ d) (h : F (some (.int s0)) (xS I L z)) : h_X9_toldBy_119 d F b I L z a1 s0 :=
  (xgo b_X9_toldBy_119 h)
set_option maxRecDepth 100000 in
theorem g_X9_toldBy_126 {d : Nat} {F : xQ} {b : Nat × Nat} {I : xI} {L : xL} {z : Bool × Bool × Nat} {a1 : Int32} {s1 : Int32} {s0 : Int32} (hd : 0 ≤ d) (h : (if xin a1 (4) then F (some (.int ((s1 * s0) + ((I 102 (Int32.toNatClampNeg a1)) - (I 102 (Int32.toNatClampNeg a1)) / 4 * 4)))) (xS I L z) else False)) : h_X9_toldBy_126 d F b I L z a1 s1 s0 :=
  (xgo b_X9_toldBy_126 h)
def h_X9_tells__0 (d : Nat) (F : xQ) (b : Nat × Nat) (I : xI) (L : xL) (z : Bool × Bool × Nat) (a1 : Int32) : Prop := xEX k_X9_tells_ 1 (xCd d) F 0 [some (.ref 66), some (.int a1)] [] (xS I L z) b
def h_X9_tells__13 (d : Nat) (F : xQ) (b : Nat × Nat) (I : xI) (L : xL) (z : Bool × Bool × Nat) (a1 : Int32) (s0 : Int32) : Prop := xEX k_X9_tells_ 1 (xCd d) F 13 [some (.ref 66), some (.int a1)] [.int s0] (xS I L z) b
set_option maxRecDepth 100000 in
theorem g_X9_tells__0 {d : Nat} {F : xQ} {b : Nat × Nat} {I : xI} {L : xL} {z : Bool × Bool × Nat} {a1 : Int32} (hd : 2 ≤ d) (h : (if p_X9_isTeller I L a1 then xCd d 282 [.ref 66, .int a1] (xS I L z) (fun r τ => xEX k_X9_tells_ 1 (xCd d) F 13 [some (.ref 66), some (.int a1)] (r.toList ++ []) τ b) else F (some (.int (-2 : Int32))) (xS (xw I 82 (Int32.toNatClampNeg (-(-2 : Int32))) ((I 82 (Int32.toNatClampNeg (-(-2 : Int32)))) + 1)) L z))) : h_X9_tells__0 d F b I L z a1 :=
  (xgo b_X9_tells__0 (xuse1 s_X9_isTeller (Nat.le_trans (by decide) hd) (xgo b_X9_tells__5 (xiteB (fun c2360 h2360 => h2360) (fun c2360 h2360 => (xupD (c_X9_refuse (xitT (by decide) (xitT (by decide) (xgo b_X9_tells__22 h2360)))) (Nat.le_trans (by decide) hd))) h))))
theorem c_X9_tells_ {d : Nat} {F : xQ} {I : xI} {L : xL} {z : Bool × Bool × Nat} {a1 : Int32} (h : h_X9_tells__0 d F (0, 0) I L z a1) : xCd (d + 1) 283 [.ref 66, .int a1] (xS I L z) F :=
  xin_ (T := k_X9_tells_) (rt := 1) (ls := [some (.ref 66), some (.int a1)]) rfl rfl rfl rfl h
set_option maxRecDepth 100000 in
theorem g_X9_tells__13 {d : Nat} {F : xQ} {b : Nat × Nat} {I : xI} {L : xL} {z : Bool × Bool × Nat} {a1 : Int32} {s0 : Int32} (hd : 2 ≤ d) (h : F (some (.int s0)) (xS I L z)) : h_X9_tells__13 d F b I L z a1 s0 :=
  (xgo b_X9_tells__13 (xgo b_X9_tells__22 h))
def h_X9_odd_0 (d : Nat) (F : xQ) (b : Nat × Nat) (I : xI) (L : xL) (z : Bool × Bool × Nat) (a1 : Int32) : Prop := xEX k_X9_odd 1 (xCd d) F 0 [some (.ref 66), some (.int a1), none, none, none, none] [] (xS I L z) b
def h_X9_odd_20 (d : Nat) (F : xQ) (b : Nat × Nat) (I : xI) (L : xL) (z : Bool × Bool × Nat) (a1 : Int32) : Prop := xEX k_X9_odd 1 (xCd d) F 20 [some (.ref 66), some (.int a1), none, none, none, none] [] (xS I L z) b
def h_X9_odd_24 (d : Nat) (F : xQ) (b : Nat × Nat) (I : xI) (L : xL) (z : Bool × Bool × Nat) (a1 : Int32) (a2 : Int32) (a3 : Int32) : Prop := xEX k_X9_odd 1 (xCd d) F 24 [some (.ref 66), some (.int a1), some (.int a2), some (.int a3), none, none] [] (xS I L z) b
def h_X9_odd_38 (d : Nat) (F : xQ) (b : Nat × Nat) (I : xI) (L : xL) (z : Bool × Bool × Nat) (a1 : Int32) (a2 : Int32) (a3 : Int32) (a4 : Int32) (a5 : Int32) : Prop := xEX k_X9_odd 1 (xCd d) F 38 [some (.ref 66), some (.int a1), some (.int a2), some (.int a3), some (.int a4), some (.int a5)] [] (xS I L z) b
set_option maxRecDepth 100000 in
theorem g_X9_odd_0 {d : Nat} {F : xQ} {b : Nat × Nat} {I : xI} {L : xL} {z : Bool × Bool × Nat} {a1 : Int32} (hd : 2 ≤ d) (h : (if p_X9_isPlace I L (Int32.toInt64 a1) then xCd d 244 [.ref 66] (xS I L z) (fun r τ => xEX k_X9_odd 1 (xCd d) F 20 [some (.ref 66), some (.int a1), none, none, none, none] (r.toList ++ []) τ b) else F (some (.int (-2 : Int32))) (xS (xw I 82 (Int32.toNatClampNeg (-(-2 : Int32))) ((I 82 (Int32.toNatClampNeg (-(-2 : Int32)))) + 1)) L z))) : h_X9_odd_0 d F b I L z a1 :=
  (xgo b_X9_odd_0 (xuse1 s_X9_isPlace (Nat.le_trans (by decide) hd) (xgo b_X9_odd_6 (xiteB (fun c2370 h2370 => h2370) (fun c2370 h2370 => (xupD (c_X9_refuse (xitT (by decide) (xitT (by decide) (xgo b_X9_odd_15 h2370)))) (Nat.le_trans (by decide) hd))) h))))
theorem c_X9_odd {d : Nat} {F : xQ} {I : xI} {L : xL} {z : Bool × Bool × Nat} {a1 : Int32} (h : h_X9_odd_0 d F (0, 0) I L z a1) : xCd (d + 1) 284 [.ref 66, .int a1] (xS I L z) F :=
  xin_ (T := k_X9_odd) (rt := 1) (ls := [some (.ref 66), some (.int a1), none, none, none, none]) rfl rfl rfl rfl h
set_option maxRecDepth 100000 in
theorem g_X9_odd_20 {d : Nat} {F : xQ} {b : Nat × Nat} {I : xI} {L : xL} {z : Bool × Bool × Nat} {a1 : Int32} (hd : 2 ≤ d) (h : h_X9_odd_24 d F b I L z a1 0 0) : h_X9_odd_20 d F b I L z a1 :=
  (xgo b_X9_odd_20 h)
set_option maxRecDepth 100000 in
theorem g_X9_odd_24 {d : Nat} {F : xQ} {b : Nat × Nat} {I : xI} {L : xL} {z : Bool × Bool × Nat} {a1 : Int32} {a2 : Int32} {a3 : Int32} (hd : 2 ≤ d) (h : (if a3 < (I 66 36) then h_X9_odd_38 d F b I L z a1 a2 a3 1 0 else F (some (.int a2)) (xS I L z))) : h_X9_odd_24 d F b I L z a1 a2 a3 :=
  (xgo b_X9_odd_24 h)
set_option maxRecDepth 100000 in
theorem g_X9_odd_38 {d : Nat} {F : xQ} {b : Nat × Nat} {I : xI} {L : xL} {z : Bool × Bool × Nat} {a1 : Int32} {a2 : Int32} {a3 : Int32} {a4 : Int32} {a5 : Int32} (hd : 2 ≤ d) (h : (if a5 < (I 66 9) then (if a5 = a1 then h_X9_odd_38 d F b I L z a1 a2 a3 (a4 &&& 1) (a5 + 1) else (if xin a3 (720) then (if xin (((I 108 (Int32.toNatClampNeg a3)) * 6) + a5) (4320) then (if xin (((I 108 (Int32.toNatClampNeg a3)) * 6) + a1) (4320) then (if (I 105 (Int32.toNatClampNeg (((I 108 (Int32.toNatClampNeg a3)) * 6) + a5))) = (I 105 (Int32.toNatClampNeg (((I 108 (Int32.toNatClampNeg a3)) * 6) + a1))) then h_X9_odd_38 d F b I L z a1 a2 a3 (a4 &&& 0) (a5 + 1) else h_X9_odd_38 d F b I L z a1 a2 a3 (a4 &&& 1) (a5 + 1)) else False) else False) else False)) else (if a4 = 0 then h_X9_odd_24 d F b I L z a1 (a2 + 0) (a3 + 1) else h_X9_odd_24 d F b I L z a1 (a2 + 1) (a3 + 1)))) : h_X9_odd_38 d F b I L z a1 a2 a3 a4 a5 :=
  (xgo b_X9_odd_38 (xite (fun c2372 h2372 => (xite (fun c2373 h2373 => h2373) (fun c2373 h2373 => (xite (fun c2374 h2374 => (xupD (c_X9_sortAt (xite (fun c2375 h2375 => (xgo b_X9_odd_67 (xitT c2374 (xupD (c_X9_sortAt (xite (fun c2376 h2376 => (xgo b_X9_odd_78 h2376)) (fun c2376 h2376 => h2376) h2375)) (Nat.le_trans (by decide) hd))))) (fun c2375 h2375 => h2375) h2374)) (Nat.le_trans (by decide) hd))) (fun c2374 h2374 => h2374) h2373)) h2372)) (fun c2372 h2372 => (xite (fun c2378 h2378 => (xwk (ls := [some (.ref 66), some (.int a1), some (.int (a2 + 0)), some (.int (a3 + 1)), none, none]) ⟨⟨rfl, ⟨rfl, ⟨rfl, ⟨rfl, trivial⟩⟩⟩⟩, rfl⟩ h2378)) (fun c2378 h2378 => (xwk (ls := [some (.ref 66), some (.int a1), some (.int (a2 + 1)), some (.int (a3 + 1)), none, none]) ⟨⟨rfl, ⟨rfl, ⟨rfl, ⟨rfl, trivial⟩⟩⟩⟩, rfl⟩ h2378)) h2372)) h))
def h_X9_turned_0 (d : Nat) (F : xQ) (b : Nat × Nat) (I : xI) (L : xL) (z : Bool × Bool × Nat)  : Prop := xEX k_X9_turned 1 (xCd d) F 0 [some (.ref 66), none, none, none] [] (xS I L z) b
def h_X9_turned_2 (d : Nat) (F : xQ) (b : Nat × Nat) (I : xI) (L : xL) (z : Bool × Bool × Nat) (a1 : Int32) : Prop := xEX k_X9_turned 1 (xCd d) F 2 [some (.ref 66), some (.int a1), none, none] [] (xS I L z) b
def h_X9_turned_15 (d : Nat) (F : xQ) (b : Nat × Nat) (I : xI) (L : xL) (z : Bool × Bool × Nat) (a1 : Int32) : Prop := xEX k_X9_turned 1 (xCd d) F 15 [some (.ref 66), some (.int a1), none, none] [] (xS I L z) b
def h_X9_turned_19 (d : Nat) (F : xQ) (b : Nat × Nat) (I : xI) (L : xL) (z : Bool × Bool × Nat) (a1 : Int32) (a2 : Int32) (a3 : Int32) : Prop := xEX k_X9_turned 1 (xCd d) F 19 [some (.ref 66), some (.int a1), some (.int a2), some (.int a3)] [] (xS I L z) b
set_option maxRecDepth 100000 in
theorem g_X9_turned_0 {d : Nat} {F : xQ} {b : Nat × Nat} {I : xI} {L : xL} {z : Bool × Bool × Nat}  (hd : 0 ≤ d) (h : h_X9_turned_2 d F b I L z 0) : h_X9_turned_0 d F b I L z  :=
  (xgo b_X9_turned_0 h)
theorem c_X9_turned {d : Nat} {F : xQ} {I : xI} {L : xL} {z : Bool × Bool × Nat}  (h : h_X9_turned_0 d F (0, 0) I L z ) : xCd (d + 1) 285 [.ref 66] (xS I L z) F :=
  xin_ (T := k_X9_turned) (rt := 1) (ls := [some (.ref 66), none, none, none]) rfl rfl rfl rfl h
set_option maxRecDepth 100000 in
theorem g_X9_turned_2 {d : Nat} {F : xQ} {b : Nat × Nat} {I : xI} {L : xL} {z : Bool × Bool × Nat} {a1 : Int32} (hd : 0 ≤ d) (h : (if a1 < (I 66 9) then xCd d 239 [.ref 66, .int a1] (xS I L z) (fun r τ => xEX k_X9_turned 1 (xCd d) F 15 [some (.ref 66), some (.int a1), none, none] (r.toList ++ []) τ b) else F (some (.int (-1 : Int32))) (xS I L z))) : h_X9_turned_2 d F b I L z a1 :=
  (xgo b_X9_turned_2 h)
set_option maxRecDepth 100000 in
theorem g_X9_turned_15 {d : Nat} {F : xQ} {b : Nat × Nat} {I : xI} {L : xL} {z : Bool × Bool × Nat} {a1 : Int32} (hd : 0 ≤ d) (h : h_X9_turned_19 d F b I L z a1 1 0) : h_X9_turned_15 d F b I L z a1 :=
  (xgo b_X9_turned_15 h)
set_option maxRecDepth 100000 in
theorem g_X9_turned_19 {d : Nat} {F : xQ} {b : Nat × Nat} {I : xI} {L : xL} {z : Bool × Bool × Nat} {a1 : Int32} {a2 : Int32} {a3 : Int32} (hd : 0 ≤ d) (h : (if a3 < (I 66 9) then (if xin a3 (6) then (if (I 106 (Int32.toNatClampNeg a3)) = (I 84 (Int32.toNatClampNeg a3)) then h_X9_turned_19 d F b I L z a1 (a2 &&& 1) (a3 + 1) else h_X9_turned_19 d F b I L z a1 (a2 &&& 0) (a3 + 1)) else False) else (if a2 = 0 then h_X9_turned_2 d F b I L z (a1 + 1) else F (some (.int a1)) (xS I L z)))) : h_X9_turned_19 d F b I L z a1 a2 a3 :=
  (xgo b_X9_turned_19 (xite (fun c2385 h2385 => (xite (fun c2386 h2386 => (xitT c2386 h2386)) (fun c2386 h2386 => h2386) h2385)) (fun c2385 h2385 => (xite (fun c2388 h2388 => (xwk (ls := [some (.ref 66), some (.int (a1 + 1)), none, none]) ⟨⟨rfl, ⟨rfl, trivial⟩⟩, rfl⟩ h2388)) (fun c2388 h2388 => h2388) h2385)) h))
def h_X9_tries_0 (d : Nat) (F : xQ) (b : Nat × Nat) (I : xI) (L : xL) (z : Bool × Bool × Nat) (a1 : Int32) : Prop := xEX k_X9_tries 1 (xCd d) F 0 [some (.ref 66), some (.int a1), none, none] [] (xS I L z) b
def h_X9_tries_17 (d : Nat) (F : xQ) (b : Nat × Nat) (I : xI) (L : xL) (z : Bool × Bool × Nat) (a1 : Int32) (a2 : Int32) : Prop := xEX k_X9_tries 1 (xCd d) F 17 [some (.ref 66), some (.int a1), some (.int a2), none] [] (xS I L z) b
def h_X9_tries_22 (d : Nat) (F : xQ) (b : Nat × Nat) (I : xI) (L : xL) (z : Bool × Bool × Nat) (a1 : Int32) (a2 : Int32) (s0 : Int32) : Prop := xEX k_X9_tries 1 (xCd d) F 22 [some (.ref 66), some (.int a1), some (.int a2), none] [.int s0] (xS I L z) b
set_option maxRecDepth 100000 in
theorem g_X9_tries_0 {d : Nat} {F : xQ} {b : Nat × Nat} {I : xI} {L : xL} {z : Bool × Bool × Nat} {a1 : Int32} (hd : 2 ≤ d) (h : (if p_X9_isTeller I L a1 then h_X9_tries_17 d F b I L z a1 0 else F (some (.int (-2 : Int32))) (xS (xw I 82 (Int32.toNatClampNeg (-(-2 : Int32))) ((I 82 (Int32.toNatClampNeg (-(-2 : Int32)))) + 1)) L z))) : h_X9_tries_0 d F b I L z a1 :=
  (xgo b_X9_tries_0 (xuse1 s_X9_isTeller (Nat.le_trans (by decide) hd) (xgo b_X9_tries_5 (xiteB (fun c2390 h2390 => h2390) (fun c2390 h2390 => (xupD (c_X9_refuse (xitT (by decide) (xitT (by decide) (xgo b_X9_tries_14 h2390)))) (Nat.le_trans (by decide) hd))) h))))
theorem c_X9_tries {d : Nat} {F : xQ} {I : xI} {L : xL} {z : Bool × Bool × Nat} {a1 : Int32} (h : h_X9_tries_0 d F (0, 0) I L z a1) : xCd (d + 1) 288 [.ref 66, .int a1] (xS I L z) F :=
  xin_ (T := k_X9_tries) (rt := 1) (ls := [some (.ref 66), some (.int a1), none, none]) rfl rfl rfl rfl h
set_option maxRecDepth 100000 in
theorem g_X9_tries_17 {d : Nat} {F : xQ} {b : Nat × Nat} {I : xI} {L : xL} {z : Bool × Bool × Nat} {a1 : Int32} {a2 : Int32} (hd : 2 ≤ d) (h : xCd d 282 [.ref 66, .int a1] (xS I L z) (fun r τ => xEX k_X9_tries 1 (xCd d) F 22 [some (.ref 66), some (.int a1), some (.int a2), none] (r.toList ++ []) τ b)) : h_X9_tries_17 d F b I L z a1 a2 :=
  (xgo b_X9_tries_17 h)
set_option maxRecDepth 100000 in
theorem g_X9_tries_22 {d : Nat} {F : xQ} {b : Nat × Nat} {I : xI} {L : xL} {z : Bool × Bool × Nat} {a1 : Int32} {a2 : Int32} {s0 : Int32} (hd : 2 ≤ d) (h : (if s0 = (-1 : Int32) then F (some (.int a2)) (xS I L z) else (if xin (s0 / 10) (6) then (bif xisi (xS I L z) (94 + 1 + Int32.toNatClampNeg (s0 / 10)) then (if xin (s0 - s0 / 10 * 10) (xlen z.2.2 (94 + 1 + Int32.toNatClampNeg (s0 / 10))) then (if (I (94 + 1 + Int32.toNatClampNeg (s0 / 10)) (Int32.toNatClampNeg (s0 - s0 / 10 * 10))) = (-1 : Int32) then (if xin (I 84 (Int32.toNatClampNeg (s0 / 10))) (6) then (bif xisi (xS I L z) (85 + 1 + Int32.toNatClampNeg (I 84 (Int32.toNatClampNeg (s0 / 10)))) then (if xin (s0 - s0 / 10 * 10) (xlen z.2.2 (85 + 1 + Int32.toNatClampNeg (I 84 (Int32.toNatClampNeg (s0 / 10))))) then (bif xis (xS I L z) (94 + 1 + Int32.toNatClampNeg (s0 / 10)) 20 && Nat.blt 8 (94 + 1 + Int32.toNatClampNeg (s0 / 10)) then (bif xisi (xS (xw I (94 + 1 + Int32.toNatClampNeg (s0 / 10)) (Int32.toNatClampNeg (s0 - s0 / 10 * 10)) (I (85 + 1 + Int32.toNatClampNeg (I 84 (Int32.toNatClampNeg (s0 / 10)))) (Int32.toNatClampNeg (s0 - s0 / 10 * 10)))) L z) (94 + 1 + Int32.toNatClampNeg (s0 / 10)) then h_X9_tries_17 d F b (xw I (94 + 1 + Int32.toNatClampNeg (s0 / 10)) (Int32.toNatClampNeg (s0 - s0 / 10 * 10)) (I (85 + 1 + Int32.toNatClampNeg (I 84 (Int32.toNatClampNeg (s0 / 10)))) (Int32.toNatClampNeg (s0 - s0 / 10 * 10)))) L z a1 (a2 + 1) else False) else False) else False) else False) else False) else F (some (.int a2)) (xS I L z)) else False) else False) else False))) : h_X9_tries_22 d F b I L z a1 a2 s0 :=
  (xgo b_X9_tries_22 (xite (fun c2391 h2391 => h2391) (fun c2391 h2391 => (xite (fun c2392 h2392 => (xbif_mono (fun h2400 => (xite (fun c2393 h2393 => (xite (fun c2394 h2394 => (xupD (c_X9_looks (xitT c2392 (xitT c2392 (xite (fun c2395 h2395 => (xbif_mono (fun h2399 => (xite (fun c2396 h2396 => (xbif_mono (fun h2398 => (xitT c2393 (xitT c2392 (xbif_mono (fun h2397 => (xitT c2393 (xgo b_X9_tries_60 (xwk (ls := [some (.ref 66), some (.int a1), some (.int (a2 + 1)), none]) ⟨⟨rfl, ⟨rfl, ⟨rfl, trivial⟩⟩⟩, rfl⟩ h2397)))) h2398)))) h2396)) (fun c2396 h2396 => h2396) h2399)) h2395)) (fun c2395 h2395 => h2395) h2394)))) (Nat.le_trans (by decide) hd))) (fun c2394 h2394 => h2394) h2393)) (fun c2393 h2393 => h2393) h2400)) h2392)) (fun c2392 h2392 => h2392) h2391)) h))
def h_X9_stairs_0 (d : Nat) (F : xQ) (b : Nat × Nat) (I : xI) (L : xL) (z : Bool × Bool × Nat)  : Prop := xEX k_X9_stairs 1 (xCd d) F 0 [some (.ref 66), none, none] [] (xS I L z) b
def h_X9_stairs_4 (d : Nat) (F : xQ) (b : Nat × Nat) (I : xI) (L : xL) (z : Bool × Bool × Nat)  : Prop := xEX k_X9_stairs 1 (xCd d) F 4 [some (.ref 66), none, none] [] (xS I L z) b
def h_X9_stairs_15 (d : Nat) (F : xQ) (b : Nat × Nat) (I : xI) (L : xL) (z : Bool × Bool × Nat) (a1 : Int32) (a2 : Int32) : Prop := xEX k_X9_stairs 1 (xCd d) F 15 [some (.ref 66), some (.int a1), some (.int a2)] [] (xS I L z) b
def h_X9_stairs_45 (d : Nat) (F : xQ) (b : Nat × Nat) (I : xI) (L : xL) (z : Bool × Bool × Nat) (a1 : Int32) (a2 : Int32) : Prop := xEX k_X9_stairs 1 (xCd d) F 45 [some (.ref 66), some (.int a1), some (.int a2)] [] (xS I L z) b
set_option maxRecDepth 100000 in
theorem g_X9_stairs_0 {d : Nat} {F : xQ} {b : Nat × Nat} {I : xI} {L : xL} {z : Bool × Bool × Nat}  (hd : 1 ≤ d) (h : xCd d 241 [.ref 66] (xS I L z) (fun r τ => xEX k_X9_stairs 1 (xCd d) F 4 [some (.ref 66), none, none] (r.toList ++ []) τ b)) : h_X9_stairs_0 d F b I L z  :=
  (xgo b_X9_stairs_0 h)
theorem c_X9_stairs {d : Nat} {F : xQ} {I : xI} {L : xL} {z : Bool × Bool × Nat}  (h : h_X9_stairs_0 d F (0, 0) I L z ) : xCd (d + 1) 290 [.ref 66] (xS I L z) F :=
  xin_ (T := k_X9_stairs) (rt := 1) (ls := [some (.ref 66), none, none]) rfl rfl rfl rfl h
set_option maxRecDepth 100000 in
theorem g_X9_stairs_4 {d : Nat} {F : xQ} {b : Nat × Nat} {I : xI} {L : xL} {z : Bool × Bool × Nat}  (hd : 1 ≤ d) (h : (if (I 66 32) = 0 then False else h_X9_stairs_15 d F b (xw I 66 20 (((I 66 20) * 1103515245) + 12345)) L z (((Int32.toUInt32 ((xw I 66 20 (((I 66 20) * 1103515245) + 12345)) 66 20) >>> (Int32.toUInt32 16 &&& Int32.toUInt32 31)).toInt32) - ((Int32.toUInt32 ((xw I 66 20 (((I 66 20) * 1103515245) + 12345)) 66 20) >>> (Int32.toUInt32 16 &&& Int32.toUInt32 31)).toInt32) / (I 66 32) * (I 66 32)) 0)) : h_X9_stairs_4 d F b I L z  :=
  (xgo b_X9_stairs_4 (xupD (c_X9_below (xite (fun c2404 h2404 => h2404) (fun c2404 h2404 => (xgo b_X9_stairs_12 h2404)) h)) (Nat.le_trans (by decide) hd)))
set_option maxRecDepth 100000 in
theorem g_X9_stairs_15 {d : Nat} {F : xQ} {b : Nat × Nat} {I : xI} {L : xL} {z : Bool × Bool × Nat} {a1 : Int32} {a2 : Int32} (hd : 1 ≤ d) (h : (if a2 < (I 66 9) then (if xin ((a1 * 6) + a2) (4320) then (if xin a2 (6) then h_X9_stairs_15 d F b (xw I 84 (Int32.toNatClampNeg a2) (I 105 (Int32.toNatClampNeg ((a1 * 6) + a2)))) L z a1 (a2 + 1) else False) else False) else xCd d 203 [.ref 66] (xS I L z) (fun r τ => xEX k_X9_stairs 1 (xCd d) F 45 [some (.ref 66), some (.int a1), some (.int a2)] (r.toList ++ []) τ b))) : h_X9_stairs_15 d F b I L z a1 a2 :=
  (xgo b_X9_stairs_15 (xite (fun c2405 h2405 => (xupD (c_X9_sortAt (xite (fun c2406 h2406 => (xgo b_X9_stairs_34 h2406)) (fun c2406 h2406 => h2406) h2405)) (Nat.le_trans (by decide) hd))) (fun c2405 h2405 => h2405) h))
set_option maxRecDepth 100000 in
theorem g_X9_stairs_45 {d : Nat} {F : xQ} {b : Nat × Nat} {I : xI} {L : xL} {z : Bool × Bool × Nat} {a1 : Int32} {a2 : Int32} (hd : 1 ≤ d) (h : F (some (.int (I 66 32))) (xS I L z)) : h_X9_stairs_45 d F b I L z a1 a2 :=
  (xgo b_X9_stairs_45 h)
def h_X9_truth_0 (d : Nat) (F : xQ) (b : Nat × Nat) (I : xI) (L : xL) (z : Bool × Bool × Nat) (a1 : Int32) : Prop := xEX k_X9_truth 1 (xCd d) F 0 [some (.ref 66), some (.int a1), none, none] [] (xS I L z) b
def h_X9_truth_22 (d : Nat) (F : xQ) (b : Nat × Nat) (I : xI) (L : xL) (z : Bool × Bool × Nat) (a1 : Int32) (a2 : Int32) (s0 : Int32) : Prop := xEX k_X9_truth 1 (xCd d) F 22 [some (.ref 66), some (.int a1), some (.int a2), none] [.int s0] (xS I L z) b
def h_X9_truth_36 (d : Nat) (F : xQ) (b : Nat × Nat) (I : xI) (L : xL) (z : Bool × Bool × Nat) (a1 : Int32) (a2 : Int32) : Prop := xEX k_X9_truth 1 (xCd d) F 36 [some (.ref 66), some (.int a1), some (.int a2), none] [] (xS I L z) b
def h_X9_truth_38 (d : Nat) (F : xQ) (b : Nat × Nat) (I : xI) (L : xL) (z : Bool × Bool × Nat) (a1 : Int32) (a2 : Int32) (a3 : Int32) : Prop := xEX k_X9_truth 1 (xCd d) F 38 [some (.ref 66), some (.int a1), some (.int a2), some (.int a3)] [] (xS I L z) b
def h_X9_truth_69 (d : Nat) (F : xQ) (b : Nat × Nat) (I : xI) (L : xL) (z : Bool × Bool × Nat) (a1 : Int32) (a2 : Int32) (a3 : Int32) : Prop := xEX k_X9_truth 1 (xCd d) F 69 [some (.ref 66), some (.int a1), some (.int a2), some (.int a3)] [] (xS I L z) b
def h_X9_truth_82 (d : Nat) (F : xQ) (b : Nat × Nat) (I : xI) (L : xL) (z : Bool × Bool × Nat) (a1 : Int32) (a2 : Int32) (a3 : Int32) (s0 : Int32) : Prop := xEX k_X9_truth 1 (xCd d) F 82 [some (.ref 66), some (.int a1), some (.int a2), some (.int a3)] [.int s0] (xS I L z) b
def h_X9_truth_96 (d : Nat) (F : xQ) (b : Nat × Nat) (I : xI) (L : xL) (z : Bool × Bool × Nat) (a1 : Int32) (a2 : Int32) (a3 : Int32) : Prop := xEX k_X9_truth 1 (xCd d) F 96 [some (.ref 66), some (.int a1), some (.int a2), some (.int a3)] [] (xS I L z) b
def h_X9_truth_100 (d : Nat) (F : xQ) (b : Nat × Nat) (I : xI) (L : xL) (z : Bool × Bool × Nat) (a1 : Int32) (a2 : Int32) (a3 : Int32) : Prop := xEX k_X9_truth 1 (xCd d) F 100 [some (.ref 66), some (.int a1), some (.int a2), some (.int a3)] [] (xS I L z) b
set_option maxRecDepth 100000 in
theorem g_X9_truth_0 {d : Nat} {F : xQ} {b : Nat × Nat} {I : xI} {L : xL} {z : Bool × Bool × Nat} {a1 : Int32} (hd : 3 ≤ d) (h : (if p_X9_in I L (Int32.toInt64 a1) (Int64.ofNat 0) (Int64.ofNat 7) then (if xin a1 (8) then (if (I 67 (Int32.toNatClampNeg a1)) = 2 then F (some (.int (-3 : Int32))) (xS (xw I 82 (Int32.toNatClampNeg (-(-3 : Int32))) ((I 82 (Int32.toNatClampNeg (-(-3 : Int32)))) + 1)) L z) else (if (I 67 (Int32.toNatClampNeg a1)) = 0 then F (some (.int (-4 : Int32))) (xS (xw I 82 (Int32.toNatClampNeg (-(-4 : Int32))) ((I 82 (Int32.toNatClampNeg (-(-4 : Int32)))) + 1)) L z) else (if (I 69 (Int32.toNatClampNeg a1)) < (I 66 9) then F (some (.int (-2 : Int32))) (xS (xw I 82 (Int32.toNatClampNeg (-(-2 : Int32))) ((I 82 (Int32.toNatClampNeg (-(-2 : Int32)))) + 1)) L z) else xCd d 208 [.ref 66, .ref (70 + 1 + Int32.toNatClampNeg a1)] (xS I L z) (fun r τ => xEX k_X9_truth 1 (xCd d) F 22 [some (.ref 66), some (.int a1), some (.int 0), none] (r.toList ++ []) τ b)))) else False) else F (some (.int (-2 : Int32))) (xS (xw I 82 (Int32.toNatClampNeg (-(-2 : Int32))) ((I 82 (Int32.toNatClampNeg (-(-2 : Int32)))) + 1)) L z))) : h_X9_truth_0 d F b I L z a1 :=
  (xgo b_X9_truth_0 (xupD (c_X9_noCups (xite (fun c2442 h2442 => (xite (fun c2443 h2443 => (xite (fun c2444 h2444 => (xgo b_X9_truth_5 (xitF (by decide) h2444))) (fun c2444 h2444 => (xitT c2443 (xite (fun c2445 h2445 => (xgo b_X9_truth_5 (xitF (by decide) h2445))) (fun c2445 h2445 => (xitT c2443 (xite (fun c2446 h2446 => (xgo b_X9_truth_5 (xitF (by decide) h2446))) (fun c2446 h2446 => (xgo b_X9_truth_5 (xitT (by decide) (xitT c2443 h2446)))) h2445))) h2444))) h2443)) (fun c2443 h2443 => h2443) h2442)) (fun c2442 h2442 => (xgo b_X9_truth_5 (xitF (by decide) h2442))) h)) (Nat.le_trans (by decide) hd)))
theorem c_X9_truth {d : Nat} {F : xQ} {I : xI} {L : xL} {z : Bool × Bool × Nat} {a1 : Int32} (h : h_X9_truth_0 d F (0, 0) I L z a1) : xCd (d + 1) 291 [.ref 66, .int a1] (xS I L z) F :=
  xin_ (T := k_X9_truth) (rt := 1) (ls := [some (.ref 66), some (.int a1), none, none]) rfl rfl rfl rfl h
set_option maxRecDepth 100000 in
theorem g_X9_truth_22 {d : Nat} {F : xQ} {b : Nat × Nat} {I : xI} {L : xL} {z : Bool × Bool × Nat} {a1 : Int32} {a2 : Int32} {s0 : Int32} (hd : 3 ≤ d) (h : (if s0 = 0 then F (some (.int (-2 : Int32))) (xS (xw I 82 (Int32.toNatClampNeg (-(-2 : Int32))) ((I 82 (Int32.toNatClampNeg (-(-2 : Int32)))) + 1)) L z) else xCd d 241 [.ref 66] (xS I L z) (fun r τ => xEX k_X9_truth 1 (xCd d) F 36 [some (.ref 66), some (.int a1), some (.int a2), none] (r.toList ++ []) τ b))) : h_X9_truth_22 d F b I L z a1 a2 s0 :=
  (xgo b_X9_truth_22 (xite (fun c2447 h2447 => (xupD (c_X9_refuse (xitT (by decide) (xitT (by decide) (xgo b_X9_truth_31 h2447)))) (Nat.le_trans (by decide) hd))) (fun c2447 h2447 => h2447) h))
set_option maxRecDepth 100000 in
theorem g_X9_truth_36 {d : Nat} {F : xQ} {b : Nat × Nat} {I : xI} {L : xL} {z : Bool × Bool × Nat} {a1 : Int32} {a2 : Int32} (hd : 3 ≤ d) (h : h_X9_truth_38 d F b I L z a1 a2 0) : h_X9_truth_36 d F b I L z a1 a2 :=
  (xgo b_X9_truth_36 h)
set_option maxRecDepth 100000 in
theorem g_X9_truth_38 {d : Nat} {F : xQ} {b : Nat × Nat} {I : xI} {L : xL} {z : Bool × Bool × Nat} {a1 : Int32} {a2 : Int32} {a3 : Int32} (hd : 3 ≤ d) (h : (if a3 < (I 66 9) then (if xin a1 (8) then (bif xis (xS I L z) (70 + 1 + Int32.toNatClampNeg a1) 21 then (if xin a3 (xlen z.2.2 (70 + 1 + Int32.toNatClampNeg a1)) then (if xin a3 (6) then h_X9_truth_38 d F b (xw I 106 (Int32.toNatClampNeg a3) (Int64.toInt32 (L (70 + 1 + Int32.toNatClampNeg a1) (Int32.toNatClampNeg a3)))) L z a1 a2 (a3 + 1) else False) else False) else False) else False) else h_X9_truth_69 d F b I L z a1 a2 0)) : h_X9_truth_38 d F b I L z a1 a2 a3 :=
  (xgo b_X9_truth_38 h)
set_option maxRecDepth 100000 in
theorem g_X9_truth_69 {d : Nat} {F : xQ} {b : Nat × Nat} {I : xI} {L : xL} {z : Bool × Bool × Nat} {a1 : Int32} {a2 : Int32} {a3 : Int32} (hd : 3 ≤ d) (h : (if a3 < (I 66 32) then xCd d 238 [.ref 66, .int a3] (xS I L z) (fun r τ => xEX k_X9_truth 1 (xCd d) F 82 [some (.ref 66), some (.int a1), some (.int a2), some (.int a3)] (r.toList ++ []) τ b) else F (some (.int (-5 : Int32))) (xS (xw I 82 (Int32.toNatClampNeg (-(-5 : Int32))) ((I 82 (Int32.toNatClampNeg (-(-5 : Int32)))) + 1)) L z))) : h_X9_truth_69 d F b I L z a1 a2 a3 :=
  (xgo b_X9_truth_69 (xite (fun c2452 h2452 => h2452) (fun c2452 h2452 => (xupD (c_X9_refuse (xitT (by decide) (xitT (by decide) (xgo b_X9_truth_114 h2452)))) (Nat.le_trans (by decide) hd))) h))
set_option maxRecDepth 100000 in
theorem g_X9_truth_82 {d : Nat} {F : xQ} {b : Nat × Nat} {I : xI} {L : xL} {z : Bool × Bool × Nat} {a1 : Int32} {a2 : Int32} {a3 : Int32} {s0 : Int32} (hd : 3 ≤ d) (h : (if s0 = 0 then xCd d 294 [.ref 106, .ref 84] (xS I L z) (fun r τ => xEX k_X9_truth 1 (xCd d) F 96 [some (.ref 66), some (.int a1), some (.int a2), some (.int a3)] (r.toList ++ []) τ b) else h_X9_truth_69 d F b I L z a1 a2 (a3 + 1))) : h_X9_truth_82 d F b I L z a1 a2 a3 s0 :=
  (xgo b_X9_truth_82 h)
set_option maxRecDepth 100000 in
theorem g_X9_truth_96 {d : Nat} {F : xQ} {b : Nat × Nat} {I : xI} {L : xL} {z : Bool × Bool × Nat} {a1 : Int32} {a2 : Int32} {a3 : Int32} (hd : 3 ≤ d) (h : xCd d 203 [.ref 66] (xS I L z) (fun r τ => xEX k_X9_truth 1 (xCd d) F 100 [some (.ref 66), some (.int a1), some (.int a2), some (.int a3)] (r.toList ++ []) τ b)) : h_X9_truth_96 d F b I L z a1 a2 a3 :=
  (xgo b_X9_truth_96 h)
set_option maxRecDepth 100000 in
theorem g_X9_truth_100 {d : Nat} {F : xQ} {b : Nat × Nat} {I : xI} {L : xL} {z : Bool × Bool × Nat} {a1 : Int32} {a2 : Int32} {a3 : Int32} (hd : 3 ≤ d) (h : F (some (.int 1)) (xS I L z)) : h_X9_truth_100 d F b I L z a1 a2 a3 :=
  (xgo b_X9_truth_100 h)
def h_X9_copied_0 (d : Nat) (F : xQ) (b : Nat × Nat) (I : xI) (L : xL) (z : Bool × Bool × Nat) (a0 : Nat) (a1 : Nat) : Prop := xEX k_X9_copied 0 (xCd d) F 0 [some (.ref a0), some (.ref a1), none] [] (xS I L z) b
def h_X9_copied_2 (d : Nat) (F : xQ) (b : Nat × Nat) (I : xI) (L : xL) (z : Bool × Bool × Nat) (a0 : Nat) (a1 : Nat) (a2 : Int32) : Prop := xEX k_X9_copied 0 (xCd d) F 2 [some (.ref a0), some (.ref a1), some (.int a2)] [] (xS I L z) b
set_option maxRecDepth 100000 in
theorem g_X9_copied_0 {d : Nat} {F : xQ} {b : Nat × Nat} {I : xI} {L : xL} {z : Bool × Bool × Nat} {a0 : Nat} {a1 : Nat} (hd : 0 ≤ d) (h : h_X9_copied_2 d F b I L z a0 a1 0) : h_X9_copied_0 d F b I L z a0 a1 :=
  (xgo b_X9_copied_0 h)
theorem c_X9_copied {d : Nat} {F : xQ} {I : xI} {L : xL} {z : Bool × Bool × Nat} {a0 : Nat} {a1 : Nat} (h : h_X9_copied_0 d F (0, 0) I L z a0 a1) : xCd (d + 1) 294 [.ref a0, .ref a1] (xS I L z) F :=
  xin_ (T := k_X9_copied) (rt := 0) (ls := [some (.ref a0), some (.ref a1), none]) rfl rfl rfl rfl h
set_option maxRecDepth 100000 in
theorem g_X9_copied_2 {d : Nat} {F : xQ} {b : Nat × Nat} {I : xI} {L : xL} {z : Bool × Bool × Nat} {a0 : Nat} {a1 : Nat} {a2 : Int32} (hd : 0 ≤ d) (h : (bif xalive (112, bif z.1 then 158 else 112, bif z.2.1 then 204 else 158) a0 && Nat.ble 20 (xkind a0) && !(Nat.beq (xkind a0) 24) then (if a2 < (Int32.ofNat (xlen z.2.2 (a0))) then (bif xisi (xS I L z) a0 then (if xin a2 (xlen z.2.2 (a0)) then (bif xis (xS I L z) a1 20 && Nat.blt 8 a1 then (if xin a2 (xlen z.2.2 (a1)) then h_X9_copied_2 d F b (xw I a1 (Int32.toNatClampNeg a2) (I a0 (Int32.toNatClampNeg a2))) L z a0 a1 (a2 + 1) else False) else False) else False) else False) else F none (xS I L z)) else False)) : h_X9_copied_2 d F b I L z a0 a1 a2 :=
  (xgo b_X9_copied_2 h)
def h_X9_status_0 (d : Nat) (F : xQ) (b : Nat × Nat) (I : xI) (L : xL) (z : Bool × Bool × Nat) (a1 : Int32) : Prop := xEX k_X9_status 1 (xCd d) F 0 [some (.ref 66), some (.int a1), none, none] [] (xS I L z) b
def h_X9_status_67 (d : Nat) (F : xQ) (b : Nat × Nat) (I : xI) (L : xL) (z : Bool × Bool × Nat) (a1 : Int32) (a2 : Int32) (s0 : Int32) : Prop := xEX k_X9_status 1 (xCd d) F 67 [some (.ref 66), some (.int a1), some (.int a2), none] [.int s0] (xS I L z) b
def h_X9_status_70 (d : Nat) (F : xQ) (b : Nat × Nat) (I : xI) (L : xL) (z : Bool × Bool × Nat) (a1 : Int32) (a2 : Int32) (a3 : Int32) : Prop := xEX k_X9_status 1 (xCd d) F 70 [some (.ref 66), some (.int a1), some (.int a2), some (.int a3)] [] (xS I L z) b
def h_X9_status_99 (d : Nat) (F : xQ) (b : Nat × Nat) (I : xI) (L : xL) (z : Bool × Bool × Nat) (a1 : Int32) (a2 : Int32) (a3 : Int32) (s0 : Int32) : Prop := xEX k_X9_status 1 (xCd d) F 99 [some (.ref 66), some (.int a1), some (.int a2), some (.int a3)] [.int s0] (xS I L z) b
def h_X9_status_112 (d : Nat) (F : xQ) (b : Nat × Nat) (I : xI) (L : xL) (z : Bool × Bool × Nat) (a1 : Int32) (a2 : Int32) (a3 : Int32) : Prop := xEX k_X9_status 1 (xCd d) F 112 [some (.ref 66), some (.int a1), some (.int a2), some (.int a3)] [] (xS I L z) b
set_option maxRecDepth 100000 in
theorem g_X9_status_0 {d : Nat} {F : xQ} {b : Nat × Nat} {I : xI} {L : xL} {z : Bool × Bool × Nat} {a1 : Int32} (hd : 1 ≤ d) (h : (if a1 = 0 then F (some (.int (I 66 9))) (xS I L z) else (if a1 = 1 then F (some (.int (I 66 10))) (xS I L z) else (if a1 = 2 then F (some (.int (I 66 17))) (xS I L z) else (if a1 = 3 then xCd d 204 [.ref 66] (xS I L z) (fun r τ => xEX k_X9_status 1 (xCd d) F 67 [some (.ref 66), some (.int a1), some (.int 0), none] (r.toList ++ []) τ b) else (if a1 = 4 then h_X9_status_70 d F b I L z a1 0 0 else (if a1 = 5 then F (some (.int (I 66 7))) (xS I L z) else (if a1 = 6 then F (some (.int (I 66 20))) (xS I L z) else (if a1 = 7 then h_X9_status_112 d F b I L z a1 0 0 else (if p_X9_in I L (Int32.toInt64 a1) (Int64.ofNat 12) (Int64.ofNat 16) then (if xin (a1 - 10) (8) then F (some (.int (I 82 (Int32.toNatClampNeg (a1 - 10))))) (xS I L z) else False) else F (some (.int (-1 : Int32))) (xS I L z))))))))))) : h_X9_status_0 d F b I L z a1 :=
  (xgo b_X9_status_0 (xite (fun c2472 h2472 => h2472) (fun c2472 h2472 => (xite (fun c2473 h2473 => h2473) (fun c2473 h2473 => (xite (fun c2474 h2474 => h2474) (fun c2474 h2474 => (xite (fun c2475 h2475 => h2475) (fun c2475 h2475 => (xite (fun c2476 h2476 => h2476) (fun c2476 h2476 => (xite (fun c2477 h2477 => h2477) (fun c2477 h2477 => (xite (fun c2478 h2478 => h2478) (fun c2478 h2478 => (xite (fun c2479 h2479 => h2479) (fun c2479 h2479 => (xuse1 s_X9_in (Nat.le_trans (by decide) hd) (xgo b_X9_status_154 (xiteB (fun c2480 h2480 => h2480) (fun c2480 h2480 => h2480) h2479)))) h2478)) h2477)) h2476)) h2475)) h2474)) h2473)) h2472)) h))
theorem c_X9_status {d : Nat} {F : xQ} {I : xI} {L : xL} {z : Bool × Bool × Nat} {a1 : Int32} (h : h_X9_status_0 d F (0, 0) I L z a1) : xCd (d + 1) 298 [.ref 66, .int a1] (xS I L z) F :=
  xin_ (T := k_X9_status) (rt := 1) (ls := [some (.ref 66), some (.int a1), none, none]) rfl rfl rfl rfl h
set_option maxRecDepth 100000 in
theorem g_X9_status_67 {d : Nat} {F : xQ} {b : Nat × Nat} {I : xI} {L : xL} {z : Bool × Bool × Nat} {a1 : Int32} {a2 : Int32} {s0 : Int32} (hd : 1 ≤ d) (h : F (some (.int s0)) (xS I L z)) : h_X9_status_67 d F b I L z a1 a2 s0 :=
  (xgo b_X9_status_67 h)
set_option maxRecDepth 100000 in
theorem g_X9_status_70 {d : Nat} {F : xQ} {b : Nat × Nat} {I : xI} {L : xL} {z : Bool × Bool × Nat} {a1 : Int32} {a2 : Int32} {a3 : Int32} (hd : 1 ≤ d) (h : (if a3 < (I 66 9) then (if xin a3 (6) then h_X9_status_70 d F b I L z a1 (a2 ||| (1 <<< ((I 83 (Int32.toNatClampNeg a3)) &&& 31))) (a3 + 1) else False) else xCd d 192 [.int a2] (xS I L z) (fun r τ => xEX k_X9_status 1 (xCd d) F 99 [some (.ref 66), some (.int a1), some (.int a2), some (.int a3)] (r.toList ++ []) τ b))) : h_X9_status_70 d F b I L z a1 a2 a3 :=
  (xgo b_X9_status_70 h)
set_option maxRecDepth 100000 in
theorem g_X9_status_99 {d : Nat} {F : xQ} {b : Nat × Nat} {I : xI} {L : xL} {z : Bool × Bool × Nat} {a1 : Int32} {a2 : Int32} {a3 : Int32} {s0 : Int32} (hd : 1 ≤ d) (h : F (some (.int s0)) (xS I L z)) : h_X9_status_99 d F b I L z a1 a2 a3 s0 :=
  (xgo b_X9_status_99 h)
set_option maxRecDepth 100000 in
theorem g_X9_status_112 {d : Nat} {F : xQ} {b : Nat × Nat} {I : xI} {L : xL} {z : Bool × Bool × Nat} {a1 : Int32} {a2 : Int32} {a3 : Int32} (hd : 1 ≤ d) (h : (if a3 < 8 then (if xin a3 (8) then (if (I 67 (Int32.toNatClampNeg a3)) = 0 then h_X9_status_112 d F b I L z a1 (a2 + 0) (a3 + 1) else h_X9_status_112 d F b I L z a1 (a2 + 1) (a3 + 1)) else False) else F (some (.int a2)) (xS I L z))) : h_X9_status_112 d F b I L z a1 a2 a3 :=
  (xgo b_X9_status_112 h)
def h_X0_tryPlace_0 (d : Nat) (F : xQ) (b : Nat × Nat) (I : xI) (L : xL) (z : Bool × Bool × Nat) (a1 : Int32) (a2 : Int32) (a3 : Int32) : Prop := xEX k_X0_tryPlace 0 (xCd d) F 0 [some (.ref 50), some (.int a1), some (.int a2), some (.int a3)] [] (xS I L z) b
def h_X0_tryPlace_51 (d : Nat) (F : xQ) (b : Nat × Nat) (I : xI) (L : xL) (z : Bool × Bool × Nat) (a1 : Int32) (a2 : Int32) (a3 : Int32) : Prop := xEX k_X0_tryPlace 0 (xCd d) F 51 [some (.ref 50), some (.int a1), some (.int a2), some (.int a3)] [] (xS I L z) b
set_option maxRecDepth 100000 in
theorem g_X0_tryPlace_0 {d : Nat} {F : xQ} {b : Nat × Nat} {I : xI} {L : xL} {z : Bool × Bool × Nat} {a1 : Int32} {a2 : Int32} {a3 : Int32} (hd : 2 ≤ d) (h : (if a1 < 0 then F none (xS I L z) else (if a1 < 6 then (if ((a3 >>> (a2 &&& 31)) &&& 1) = 1 then F none (xS I L z) else (if p_X0_suits I L a1 a2 then (if xin a1 (6) then xCd d 7 [.ref 50, .int (a1 + 1), .int (a3 ||| (1 <<< (a2 &&& 31)))] (xS (xw I 55 (Int32.toNatClampNeg a1) a2) L z) (fun r τ => xEX k_X0_tryPlace 0 (xCd d) F 51 [some (.ref 50), some (.int a1), some (.int a2), some (.int a3)] (r.toList ++ []) τ b) else False) else F none (xS I L z))) else F none (xS I L z)))) : h_X0_tryPlace_0 d F b I L z a1 a2 a3 :=
  (xgo b_X0_tryPlace_0 (xite (fun c2492 h2492 => h2492) (fun c2492 h2492 => (xite (fun c2493 h2493 => (xite (fun c2494 h2494 => h2494) (fun c2494 h2494 => (xuse1 s_X0_suits (Nat.le_trans (by decide) hd) (xgo b_X0_tryPlace_28 (xiteB (fun c2495 h2495 => h2495) (fun c2495 h2495 => h2495) h2494)))) h2493)) (fun c2493 h2493 => h2493) h2492)) h))
theorem c_X0_tryPlace {d : Nat} {F : xQ} {I : xI} {L : xL} {z : Bool × Bool × Nat} {a1 : Int32} {a2 : Int32} {a3 : Int32} (h : h_X0_tryPlace_0 d F (0, 0) I L z a1 a2 a3) : xCd (d + 1) 300 [.ref 50, .int a1, .int a2, .int a3] (xS I L z) F :=
  xin_ (T := k_X0_tryPlace) (rt := 0) (ls := [some (.ref 50), some (.int a1), some (.int a2), some (.int a3)]) rfl rfl rfl rfl h
set_option maxRecDepth 100000 in
theorem g_X0_tryPlace_51 {d : Nat} {F : xQ} {b : Nat × Nat} {I : xI} {L : xL} {z : Bool × Bool × Nat} {a1 : Int32} {a2 : Int32} {a3 : Int32} (hd : 2 ≤ d) (h : F none (xS I L z)) : h_X0_tryPlace_51 d F b I L z a1 a2 a3 :=
  (xgo b_X0_tryPlace_51 h)
def h_J7_fill_53178_0 (d : Nat) (F : xQ) (b : Nat × Nat) (I : xI) (L : xL) (z : Bool × Bool × Nat) (a0 : Nat) (a1 : Int32) : Prop := xEX k_J7_fill_53178 0 (xCd d) F 0 [some (.ref a0), some (.int a1), none, none] [] (xS I L z) b
def h_J7_fill_53178_5 (d : Nat) (F : xQ) (b : Nat × Nat) (I : xI) (L : xL) (z : Bool × Bool × Nat) (a0 : Nat) (a1 : Int32) (a2 : Int32) (a3 : Int32) : Prop := xEX k_J7_fill_53178 0 (xCd d) F 5 [some (.ref a0), some (.int a1), some (.int a2), some (.int a3)] [] (xS I L z) b
set_option maxRecDepth 100000 in
theorem g_J7_fill_53178_0 {d : Nat} {F : xQ} {b : Nat × Nat} {I : xI} {L : xL} {z : Bool × Bool × Nat} {a0 : Nat} {a1 : Int32} (hd : 0 ≤ d) (h : (bif xalive (112, bif z.1 then 158 else 112, bif z.2.1 then 204 else 158) a0 && Nat.ble 20 (xkind a0) && !(Nat.beq (xkind a0) 24) then h_J7_fill_53178_5 d F b I L z a0 a1 0 (Int32.ofNat (xlen z.2.2 (a0))) else False)) : h_J7_fill_53178_0 d F b I L z a0 a1 :=
  (xgo b_J7_fill_53178_0 h)
theorem c_J7_fill_53178 {d : Nat} {F : xQ} {I : xI} {L : xL} {z : Bool × Bool × Nat} {a0 : Nat} {a1 : Int32} (h : h_J7_fill_53178_0 d F (0, 0) I L z a0 a1) : xCd (d + 1) 302 [.ref a0, .int a1] (xS I L z) F :=
  xin_ (T := k_J7_fill_53178) (rt := 0) (ls := [some (.ref a0), some (.int a1), none, none]) rfl rfl rfl rfl h
set_option maxRecDepth 100000 in
theorem g_J7_fill_53178_5 {d : Nat} {F : xQ} {b : Nat × Nat} {I : xI} {L : xL} {z : Bool × Bool × Nat} {a0 : Nat} {a1 : Int32} {a2 : Int32} {a3 : Int32} (hd : 0 ≤ d) (h : (if a2 < a3 then (bif xis (xS I L z) a0 20 && Nat.blt 8 a0 then (if xin a2 (xlen z.2.2 (a0)) then h_J7_fill_53178_5 d F b (xw I a0 (Int32.toNatClampNeg a2) a1) L z a0 a1 (a2 + 1) a3 else False) else False) else F none (xS I L z))) : h_J7_fill_53178_5 d F b I L z a0 a1 a2 a3 :=
  (xgo b_J7_fill_53178_5 h)
