/-! more rows: printed -/
set_option maxRecDepth 100000 in
theorem b_X9_stair_0 {C : xC} {Q : xQ} {K : xK} {I : xI} {L : xL} {z : Bool × Bool × Nat} {b : Nat × Nat}  :
  xrun k_X9_stair 1 C Q [4, 9, 24, 30] K 2 0 [some (.ref 66), none, none] [] (xS I L z) b =
  (bif Nat.ble 46 b.1 && Nat.ble 5872 b.2 then C 233 [.ref 66] (xS I L z) (fun r τ => K 4 [some (.ref 66), none, none] (r.toList ++ []) τ (b.1 - 46, b.2 - 5872)) else False) := rfl
set_option maxRecDepth 100000 in
theorem b_X9_stair_4 {C : xC} {Q : xQ} {K : xK} {I : xI} {L : xL} {z : Bool × Bool × Nat} {b : Nat × Nat}  :
  xrun k_X9_stair 1 C Q [4, 9, 24, 30] K 3 4 [some (.ref 66), none, none] [.ref 158] (xS I L z) b =
  C 232 [.ref 66] (xS I L z) (fun r τ => K 9 [some (.ref 66), some (.ref 158), none] (r.toList ++ []) τ b) := rfl
set_option maxRecDepth 100000 in
theorem b_X9_stair_9 {C : xC} {Q : xQ} {K : xK} {I : xI} {L : xL} {z : Bool × Bool × Nat} {b : Nat × Nat} {s0 : Int32} :
  xrun k_X9_stair 1 C Q [4, 9, 24, 30] K 9 9 [some (.ref 66), some (.ref 158), none] [.int s0] (xS I L z) b =
  (if s0 = 0 then C 295 [.ref 66, .ref 158] (xS (xw I 66 7 0) L z) (fun r τ => K 24 [some (.ref 66), some (.ref 158), some (.int s0)] (r.toList ++ []) τ b) else Q (some (.int ((xw I 66 7 0) 66 30))) (xS (xw I 66 7 0) L z)) := rfl
set_option maxRecDepth 100000 in
theorem b_X9_stair_24 {C : xC} {Q : xQ} {K : xK} {I : xI} {L : xL} {z : Bool × Bool × Nat} {b : Nat × Nat} {a2 : Int32} :
  xrun k_X9_stair 1 C Q [4, 9, 24, 30] K 3 24 [some (.ref 66), some (.ref 158), some (.int a2)] [] (xS I L z) b =
  C 187 [.ref 66, .int (-2 : Int32)] (xS I L z) (fun r τ => K 30 [some (.ref 66), some (.ref 158), some (.int a2)] (r.toList ++ []) τ b) := rfl
set_option maxRecDepth 100000 in
theorem b_X9_stair_30 {C : xC} {Q : xQ} {K : xK} {I : xI} {L : xL} {z : Bool × Bool × Nat} {b : Nat × Nat} {a2 : Int32} {s0 : Int32} :
  xrun k_X9_stair 1 C Q [4, 9, 24, 30] K 6 30 [some (.ref 66), some (.ref 158), some (.int a2)] [.int s0] (xS I L z) b =
  Q (some (.int ((-20 : Int32) - (I 66 27)))) (xS I L z) := rfl
set_option maxRecDepth 100000 in
theorem b_X9_back_00_0 {C : xC} {Q : xQ} {K : xK} {I : xI} {L : xL} {z : Nat} {b : Nat × Nat}  :
  xrun k_X9_back 1 C Q [13, 22, 24] K 6 0 [some (.ref 66), none] [] (xS I L (false, false, z)) b =
  C 187 [.ref 66, .int (-5 : Int32)] (xS I L (false, false, z)) (fun r τ => K 13 [some (.ref 66), none] (r.toList ++ []) τ b) := rfl
set_option maxRecDepth 100000 in
theorem b_X9_back_00_13 {C : xC} {Q : xQ} {K : xK} {I : xI} {L : xL} {z : Nat} {b : Nat × Nat} {s0 : Int32} :
  xrun k_X9_back 1 C Q [13, 22, 24] K 1 13 [some (.ref 66), none] [.int s0] (xS I L (false, false, z)) b =
  Q (some (.int s0)) (xS I L (false, false, z)) := rfl
set_option maxRecDepth 100000 in
theorem b_X9_back_01_0 {C : xC} {Q : xQ} {K : xK} {I : xI} {L : xL} {z : Nat} {b : Nat × Nat}  :
  xrun k_X9_back 1 C Q [13, 22, 24] K 6 0 [some (.ref 66), none] [] (xS I L (false, true, z)) b =
  C 187 [.ref 66, .int (-5 : Int32)] (xS I L (false, true, z)) (fun r τ => K 13 [some (.ref 66), none] (r.toList ++ []) τ b) := rfl
set_option maxRecDepth 100000 in
theorem b_X9_back_01_13 {C : xC} {Q : xQ} {K : xK} {I : xI} {L : xL} {z : Nat} {b : Nat × Nat} {s0 : Int32} :
  xrun k_X9_back 1 C Q [13, 22, 24] K 1 13 [some (.ref 66), none] [.int s0] (xS I L (false, true, z)) b =
  Q (some (.int s0)) (xS I L (false, true, z)) := rfl
set_option maxRecDepth 100000 in
theorem b_X9_back_10_0 {C : xC} {Q : xQ} {K : xK} {I : xI} {L : xL} {z : Nat} {b : Nat × Nat}  :
  xrun k_X9_back 1 C Q [13, 22, 24] K 7 0 [some (.ref 66), none] [] (xS I L (true, false, z)) b =
  C 295 [.ref 66, .ref 112] (xS I L (true, false, z)) (fun r τ => K 22 [some (.ref 66), none] (r.toList ++ []) τ b) := rfl
set_option maxRecDepth 100000 in
theorem b_X9_back_10_22 {C : xC} {Q : xQ} {K : xK} {I : xI} {L : xL} {z : Nat} {b : Nat × Nat}  :
  xrun k_X9_back 1 C Q [13, 22, 24] K 2 22 [some (.ref 66), none] [] (xS I L (true, false, z)) b =
  K 24 [some (.ref 66), some (.int 0)] [] (xS I L (true, false, z)) b := rfl
set_option maxRecDepth 100000 in
theorem b_X9_back_10_24 {C : xC} {Q : xQ} {K : xK} {I : xI} {L : xL} {z : Nat} {b : Nat × Nat} {a1 : Int32} :
  xrun k_X9_back 1 C Q [13, 22, 24] K 23 24 [some (.ref 66), some (.int a1)] [] (xS I L (true, false, z)) b =
  (if a1 < 8 then (if xin a1 (8) then (if (I 67 (Int32.toNatClampNeg a1)) = 2 then (if xin a1 (8) then (if (I 80 (Int32.toNatClampNeg a1)) < (I 66 17) then K 24 [some (.ref 66), some (.int (a1 + 1))] [] (xS I L (true, false, z)) b else (if xin a1 (8) then K 24 [some (.ref 66), some (.int (a1 + 1))] [] (xS (xw I 67 (Int32.toNatClampNeg a1) 0) L (true, false, z)) b else False)) else False) else K 24 [some (.ref 66), some (.int (a1 + 1))] [] (xS I L (true, false, z)) b) else False) else Q (some (.int 1)) (xS I L (true, false, z))) := rfl
set_option maxRecDepth 100000 in
theorem b_X9_back_11_0 {C : xC} {Q : xQ} {K : xK} {I : xI} {L : xL} {z : Nat} {b : Nat × Nat}  :
  xrun k_X9_back 1 C Q [13, 22, 24] K 7 0 [some (.ref 66), none] [] (xS I L (true, true, z)) b =
  C 295 [.ref 66, .ref 112] (xS I L (true, true, z)) (fun r τ => K 22 [some (.ref 66), none] (r.toList ++ []) τ b) := rfl
set_option maxRecDepth 100000 in
theorem b_X9_back_11_22 {C : xC} {Q : xQ} {K : xK} {I : xI} {L : xL} {z : Nat} {b : Nat × Nat}  :
  xrun k_X9_back 1 C Q [13, 22, 24] K 2 22 [some (.ref 66), none] [] (xS I L (true, true, z)) b =
  K 24 [some (.ref 66), some (.int 0)] [] (xS I L (true, true, z)) b := rfl
set_option maxRecDepth 100000 in
theorem b_X9_back_11_24 {C : xC} {Q : xQ} {K : xK} {I : xI} {L : xL} {z : Nat} {b : Nat × Nat} {a1 : Int32} :
  xrun k_X9_back 1 C Q [13, 22, 24] K 23 24 [some (.ref 66), some (.int a1)] [] (xS I L (true, true, z)) b =
  (if a1 < 8 then (if xin a1 (8) then (if (I 67 (Int32.toNatClampNeg a1)) = 2 then (if xin a1 (8) then (if (I 80 (Int32.toNatClampNeg a1)) < (I 66 17) then K 24 [some (.ref 66), some (.int (a1 + 1))] [] (xS I L (true, true, z)) b else (if xin a1 (8) then K 24 [some (.ref 66), some (.int (a1 + 1))] [] (xS (xw I 67 (Int32.toNatClampNeg a1) 0) L (true, true, z)) b else False)) else False) else K 24 [some (.ref 66), some (.int (a1 + 1))] [] (xS I L (true, true, z)) b) else False) else Q (some (.int 1)) (xS I L (true, true, z))) := rfl
set_option maxRecDepth 100000 in
theorem b_X9_image_10_0 {C : xC} {Q : xQ} {K : xK} {I : xI} {L : xL} {z : Nat} {b : Nat × Nat}  :
  xrun k_X9_image 1 C Q [15, 26] K 7 0 [some (.ref 66)] [] (xS I L (true, false, z)) b =
  C 295 [.ref 112, .ref 66] (xS I L (true, false, z)) (fun r τ => K 26 [some (.ref 66)] (r.toList ++ []) τ b) := rfl
set_option maxRecDepth 100000 in
theorem b_X9_image_10_26 {C : xC} {Q : xQ} {K : xK} {I : xI} {L : xL} {z : Nat} {b : Nat × Nat}  :
  xrun k_X9_image 1 C Q [15, 26] K 2 26 [some (.ref 66)] [] (xS I L (true, false, z)) b =
  Q (some (.int 1)) (xS I L (true, false, z)) := rfl
set_option maxRecDepth 100000 in
theorem b_X9_fresh_01_0 {C : xC} {Q : xQ} {K : xK} {I : xI} {L : xL} {z : Nat} {b : Nat × Nat}  :
  xrun k_X9_fresh 4 C Q [15, 26] K 7 0 [some (.ref 66)] [] (xS I L (false, true, z)) b =
  C 295 [.ref 158, .ref 66] (xS I L (false, true, z)) (fun r τ => K 26 [some (.ref 66)] (r.toList ++ []) τ b) := rfl
set_option maxRecDepth 100000 in
theorem b_X9_fresh_01_26 {C : xC} {Q : xQ} {K : xK} {I : xI} {L : xL} {z : Nat} {b : Nat × Nat}  :
  xrun k_X9_fresh 4 C Q [15, 26] K 3 26 [some (.ref 66)] [] (xS I L (false, true, z)) b =
  Q (some (.ref 158)) (xS I L (false, true, z)) := rfl
set_option maxRecDepth 100000 in
theorem b_X9_image_11_0 {C : xC} {Q : xQ} {K : xK} {I : xI} {L : xL} {z : Nat} {b : Nat × Nat}  :
  xrun k_X9_image 1 C Q [15, 26] K 7 0 [some (.ref 66)] [] (xS I L (true, true, z)) b =
  C 295 [.ref 112, .ref 66] (xS I L (true, true, z)) (fun r τ => K 26 [some (.ref 66)] (r.toList ++ []) τ b) := rfl
set_option maxRecDepth 100000 in
theorem b_X9_image_11_26 {C : xC} {Q : xQ} {K : xK} {I : xI} {L : xL} {z : Nat} {b : Nat × Nat}  :
  xrun k_X9_image 1 C Q [15, 26] K 2 26 [some (.ref 66)] [] (xS I L (true, true, z)) b =
  Q (some (.int 1)) (xS I L (true, true, z)) := rfl
set_option maxRecDepth 100000 in
theorem b_X9_fresh_11_0 {C : xC} {Q : xQ} {K : xK} {I : xI} {L : xL} {z : Nat} {b : Nat × Nat}  :
  xrun k_X9_fresh 4 C Q [15, 26] K 7 0 [some (.ref 66)] [] (xS I L (true, true, z)) b =
  C 295 [.ref 158, .ref 66] (xS I L (true, true, z)) (fun r τ => K 26 [some (.ref 66)] (r.toList ++ []) τ b) := rfl
set_option maxRecDepth 100000 in
theorem b_X9_fresh_11_26 {C : xC} {Q : xQ} {K : xK} {I : xI} {L : xL} {z : Nat} {b : Nat × Nat}  :
  xrun k_X9_fresh 4 C Q [15, 26] K 3 26 [some (.ref 66)] [] (xS I L (true, true, z)) b =
  Q (some (.ref 158)) (xS I L (true, true, z)) := rfl
def h_X9_stair_0 (d : Nat) (F : xQ) (b : Nat × Nat) (I : xI) (L : xL) (z : Bool × Bool × Nat)  : Prop := xEX k_X9_stair 1 (xCd d) F 0 [some (.ref 66), none, none] [] (xS I L z) b
def h_X9_stair_4 (d : Nat) (F : xQ) (b : Nat × Nat) (I : xI) (L : xL) (z : Bool × Bool × Nat)  : Prop := xEX k_X9_stair 1 (xCd d) F 4 [some (.ref 66), none, none] [.ref 158] (xS I L z) b
def h_X9_stair_9 (d : Nat) (F : xQ) (b : Nat × Nat) (I : xI) (L : xL) (z : Bool × Bool × Nat) (s0 : Int32) : Prop := xEX k_X9_stair 1 (xCd d) F 9 [some (.ref 66), some (.ref 158), none] [.int s0] (xS I L z) b
def h_X9_stair_24 (d : Nat) (F : xQ) (b : Nat × Nat) (I : xI) (L : xL) (z : Bool × Bool × Nat) (a2 : Int32) : Prop := xEX k_X9_stair 1 (xCd d) F 24 [some (.ref 66), some (.ref 158), some (.int a2)] [] (xS I L z) b
set_option maxRecDepth 100000 in
theorem g_X9_stair_0 {d : Nat} {F : xQ} {b : Nat × Nat} {I : xI} {L : xL} {z : Bool × Bool × Nat}  (hd : 1 ≤ d) (h : (bif Nat.ble 46 b.1 && Nat.ble 5872 b.2 then xCd d 233 [.ref 66] (xS I L z) (fun r τ => xEX k_X9_stair 1 (xCd d) F 4 [some (.ref 66), none, none] (r.toList ++ []) τ (b.1 - 46, b.2 - 5872)) else False)) : h_X9_stair_0 d F b I L z  :=
  (xgo b_X9_stair_0 h)
theorem c_X9_stair {d : Nat} {F : xQ} {I : xI} {L : xL} {z : Bool × Bool × Nat}  (h : h_X9_stair_0 d F (46, 5872) I L z ) : xCd (d + 1) 234 [.ref 66] (xS I L z) F :=
  xin_ (T := k_X9_stair) (rt := 1) (ls := [some (.ref 66), none, none]) rfl rfl rfl rfl h
set_option maxRecDepth 100000 in
theorem g_X9_stair_4 {d : Nat} {F : xQ} {b : Nat × Nat} {I : xI} {L : xL} {z : Bool × Bool × Nat}  (hd : 1 ≤ d) (h : xCd d 232 [.ref 66] (xS I L z) (fun r τ => xEX k_X9_stair 1 (xCd d) F 9 [some (.ref 66), some (.ref 158), none] (r.toList ++ []) τ b)) : h_X9_stair_4 d F b I L z  :=
  (xgo b_X9_stair_4 h)
set_option maxRecDepth 100000 in
theorem g_X9_stair_9 {d : Nat} {F : xQ} {b : Nat × Nat} {I : xI} {L : xL} {z : Bool × Bool × Nat} {s0 : Int32} (hd : 1 ≤ d) (h : (if s0 = 0 then xCd d 295 [.ref 66, .ref 158] (xS (xw I 66 7 0) L z) (fun r τ => xEX k_X9_stair 1 (xCd d) F 24 [some (.ref 66), some (.ref 158), some (.int s0)] (r.toList ++ []) τ b) else F (some (.int ((xw I 66 7 0) 66 30))) (xS (xw I 66 7 0) L z))) : h_X9_stair_9 d F b I L z s0 :=
  (xgo b_X9_stair_9 h)
set_option maxRecDepth 100000 in
theorem g_X9_stair_24 {d : Nat} {F : xQ} {b : Nat × Nat} {I : xI} {L : xL} {z : Bool × Bool × Nat} {a2 : Int32} (hd : 1 ≤ d) (h : F (some (.int ((-20 : Int32) - ((xw I 82 (Int32.toNatClampNeg (-(-2 : Int32))) ((I 82 (Int32.toNatClampNeg (-(-2 : Int32)))) + 1)) 66 27)))) (xS (xw I 82 (Int32.toNatClampNeg (-(-2 : Int32))) ((I 82 (Int32.toNatClampNeg (-(-2 : Int32)))) + 1)) L z)) : h_X9_stair_24 d F b I L z a2 :=
  (xgo b_X9_stair_24 (xupD (c_X9_refuse (xitT (by decide) (xitT (by decide) (xgo b_X9_stair_30 h)))) (Nat.le_trans (by decide) hd)))
def h_X9_back_00_0 (d : Nat) (F : xQ) (b : Nat × Nat) (I : xI) (L : xL) (z : Nat)  : Prop := xEX k_X9_back 1 (xCd d) F 0 [some (.ref 66), none] [] (xS I L (false, false, z)) b
set_option maxRecDepth 100000 in
theorem g_X9_back_00_0 {d : Nat} {F : xQ} {b : Nat × Nat} {I : xI} {L : xL} {z : Nat}  (hd : 1 ≤ d) (h : F (some (.int (-5 : Int32))) (xS (xw I 82 (Int32.toNatClampNeg (-(-5 : Int32))) ((I 82 (Int32.toNatClampNeg (-(-5 : Int32)))) + 1)) L (false, false, z))) : h_X9_back_00_0 d F b I L z  :=
  (xgo b_X9_back_00_0 (xupD (c_X9_refuse (xitT (by decide) (xitT (by decide) (xgo b_X9_back_00_13 h)))) (Nat.le_trans (by decide) hd)))
theorem c_X9_back_00 {d : Nat} {F : xQ} {I : xI} {L : xL} {z : Nat}  (h : h_X9_back_00_0 d F (0, 0) I L z ) : xCd (d + 1) 297 [.ref 66] (xS I L (false, false, z)) F :=
  xin_ (T := k_X9_back) (rt := 1) (ls := [some (.ref 66), none]) rfl rfl rfl rfl h
def h_X9_back_01_0 (d : Nat) (F : xQ) (b : Nat × Nat) (I : xI) (L : xL) (z : Nat)  : Prop := xEX k_X9_back 1 (xCd d) F 0 [some (.ref 66), none] [] (xS I L (false, true, z)) b
set_option maxRecDepth 100000 in
theorem g_X9_back_01_0 {d : Nat} {F : xQ} {b : Nat × Nat} {I : xI} {L : xL} {z : Nat}  (hd : 1 ≤ d) (h : F (some (.int (-5 : Int32))) (xS (xw I 82 (Int32.toNatClampNeg (-(-5 : Int32))) ((I 82 (Int32.toNatClampNeg (-(-5 : Int32)))) + 1)) L (false, true, z))) : h_X9_back_01_0 d F b I L z  :=
  (xgo b_X9_back_01_0 (xupD (c_X9_refuse (xitT (by decide) (xitT (by decide) (xgo b_X9_back_01_13 h)))) (Nat.le_trans (by decide) hd)))
theorem c_X9_back_01 {d : Nat} {F : xQ} {I : xI} {L : xL} {z : Nat}  (h : h_X9_back_01_0 d F (0, 0) I L z ) : xCd (d + 1) 297 [.ref 66] (xS I L (false, true, z)) F :=
  xin_ (T := k_X9_back) (rt := 1) (ls := [some (.ref 66), none]) rfl rfl rfl rfl h
def h_X9_back_10_0 (d : Nat) (F : xQ) (b : Nat × Nat) (I : xI) (L : xL) (z : Nat)  : Prop := xEX k_X9_back 1 (xCd d) F 0 [some (.ref 66), none] [] (xS I L (true, false, z)) b
def h_X9_back_10_22 (d : Nat) (F : xQ) (b : Nat × Nat) (I : xI) (L : xL) (z : Nat)  : Prop := xEX k_X9_back 1 (xCd d) F 22 [some (.ref 66), none] [] (xS I L (true, false, z)) b
def h_X9_back_10_24 (d : Nat) (F : xQ) (b : Nat × Nat) (I : xI) (L : xL) (z : Nat) (a1 : Int32) : Prop := xEX k_X9_back 1 (xCd d) F 24 [some (.ref 66), some (.int a1)] [] (xS I L (true, false, z)) b
set_option maxRecDepth 100000 in
theorem g_X9_back_10_0 {d : Nat} {F : xQ} {b : Nat × Nat} {I : xI} {L : xL} {z : Nat}  (hd : 0 ≤ d) (h : xCd d 295 [.ref 66, .ref 112] (xS I L (true, false, z)) (fun r τ => xEX k_X9_back 1 (xCd d) F 22 [some (.ref 66), none] (r.toList ++ []) τ b)) : h_X9_back_10_0 d F b I L z  :=
  (xgo b_X9_back_10_0 h)
theorem c_X9_back_10 {d : Nat} {F : xQ} {I : xI} {L : xL} {z : Nat}  (h : h_X9_back_10_0 d F (0, 0) I L z ) : xCd (d + 1) 297 [.ref 66] (xS I L (true, false, z)) F :=
  xin_ (T := k_X9_back) (rt := 1) (ls := [some (.ref 66), none]) rfl rfl rfl rfl h
set_option maxRecDepth 100000 in
theorem g_X9_back_10_22 {d : Nat} {F : xQ} {b : Nat × Nat} {I : xI} {L : xL} {z : Nat}  (hd : 0 ≤ d) (h : h_X9_back_10_24 d F b I L z 0) : h_X9_back_10_22 d F b I L z  :=
  (xgo b_X9_back_10_22 h)
set_option maxRecDepth 100000 in
theorem g_X9_back_10_24 {d : Nat} {F : xQ} {b : Nat × Nat} {I : xI} {L : xL} {z : Nat} {a1 : Int32} (hd : 0 ≤ d) (h : (if a1 < 8 then (if xin a1 (8) then (if (I 67 (Int32.toNatClampNeg a1)) = 2 then (if (I 80 (Int32.toNatClampNeg a1)) < (I 66 17) then h_X9_back_10_24 d F b I L z (a1 + 1) else h_X9_back_10_24 d F b (xw I 67 (Int32.toNatClampNeg a1) 0) L z (a1 + 1)) else h_X9_back_10_24 d F b I L z (a1 + 1)) else False) else F (some (.int 1)) (xS I L (true, false, z)))) : h_X9_back_10_24 d F b I L z a1 :=
  (xgo b_X9_back_10_24 (xite (fun c724 h724 => (xite (fun c725 h725 => (xite (fun c726 h726 => (xitT c725 (xite (fun c727 h727 => h727) (fun c727 h727 => (xitT c725 h727)) h726))) (fun c726 h726 => h726) h725)) (fun c725 h725 => h725) h724)) (fun c724 h724 => h724) h))
def h_X9_back_11_0 (d : Nat) (F : xQ) (b : Nat × Nat) (I : xI) (L : xL) (z : Nat)  : Prop := xEX k_X9_back 1 (xCd d) F 0 [some (.ref 66), none] [] (xS I L (true, true, z)) b
def h_X9_back_11_22 (d : Nat) (F : xQ) (b : Nat × Nat) (I : xI) (L : xL) (z : Nat)  : Prop := xEX k_X9_back 1 (xCd d) F 22 [some (.ref 66), none] [] (xS I L (true, true, z)) b
def h_X9_back_11_24 (d : Nat) (F : xQ) (b : Nat × Nat) (I : xI) (L : xL) (z : Nat) (a1 : Int32) : Prop := xEX k_X9_back 1 (xCd d) F 24 [some (.ref 66), some (.int a1)] [] (xS I L (true, true, z)) b
set_option maxRecDepth 100000 in
theorem g_X9_back_11_0 {d : Nat} {F : xQ} {b : Nat × Nat} {I : xI} {L : xL} {z : Nat}  (hd : 0 ≤ d) (h : xCd d 295 [.ref 66, .ref 112] (xS I L (true, true, z)) (fun r τ => xEX k_X9_back 1 (xCd d) F 22 [some (.ref 66), none] (r.toList ++ []) τ b)) : h_X9_back_11_0 d F b I L z  :=
  (xgo b_X9_back_11_0 h)
theorem c_X9_back_11 {d : Nat} {F : xQ} {I : xI} {L : xL} {z : Nat}  (h : h_X9_back_11_0 d F (0, 0) I L z ) : xCd (d + 1) 297 [.ref 66] (xS I L (true, true, z)) F :=
  xin_ (T := k_X9_back) (rt := 1) (ls := [some (.ref 66), none]) rfl rfl rfl rfl h
set_option maxRecDepth 100000 in
theorem g_X9_back_11_22 {d : Nat} {F : xQ} {b : Nat × Nat} {I : xI} {L : xL} {z : Nat}  (hd : 0 ≤ d) (h : h_X9_back_11_24 d F b I L z 0) : h_X9_back_11_22 d F b I L z  :=
  (xgo b_X9_back_11_22 h)
set_option maxRecDepth 100000 in
theorem g_X9_back_11_24 {d : Nat} {F : xQ} {b : Nat × Nat} {I : xI} {L : xL} {z : Nat} {a1 : Int32} (hd : 0 ≤ d) (h : (if a1 < 8 then (if xin a1 (8) then (if (I 67 (Int32.toNatClampNeg a1)) = 2 then (if (I 80 (Int32.toNatClampNeg a1)) < (I 66 17) then h_X9_back_11_24 d F b I L z (a1 + 1) else h_X9_back_11_24 d F b (xw I 67 (Int32.toNatClampNeg a1) 0) L z (a1 + 1)) else h_X9_back_11_24 d F b I L z (a1 + 1)) else False) else F (some (.int 1)) (xS I L (true, true, z)))) : h_X9_back_11_24 d F b I L z a1 :=
  (xgo b_X9_back_11_24 (xite (fun c732 h732 => (xite (fun c733 h733 => (xite (fun c734 h734 => (xitT c733 (xite (fun c735 h735 => h735) (fun c735 h735 => (xitT c733 h735)) h734))) (fun c734 h734 => h734) h733)) (fun c733 h733 => h733) h732)) (fun c732 h732 => h732) h))
def h_X9_image_10_0 (d : Nat) (F : xQ) (b : Nat × Nat) (I : xI) (L : xL) (z : Nat)  : Prop := xEX k_X9_image 1 (xCd d) F 0 [some (.ref 66)] [] (xS I L (true, false, z)) b
def h_X9_image_10_26 (d : Nat) (F : xQ) (b : Nat × Nat) (I : xI) (L : xL) (z : Nat)  : Prop := xEX k_X9_image 1 (xCd d) F 26 [some (.ref 66)] [] (xS I L (true, false, z)) b
set_option maxRecDepth 100000 in
theorem g_X9_image_10_0 {d : Nat} {F : xQ} {b : Nat × Nat} {I : xI} {L : xL} {z : Nat}  (hd : 0 ≤ d) (h : xCd d 295 [.ref 112, .ref 66] (xS I L (true, false, z)) (fun r τ => xEX k_X9_image 1 (xCd d) F 26 [some (.ref 66)] (r.toList ++ []) τ b)) : h_X9_image_10_0 d F b I L z  :=
  (xgo b_X9_image_10_0 h)
theorem c_X9_image_10 {d : Nat} {F : xQ} {I : xI} {L : xL} {z : Nat}  (h : h_X9_image_10_0 d F (46, 5872) I L z ) : xCd (d + 1) 296 [.ref 66] (xS I L (true, false, z)) F :=
  xin_ (T := k_X9_image) (rt := 1) (ls := [some (.ref 66)]) rfl rfl rfl rfl h
set_option maxRecDepth 100000 in
theorem g_X9_image_10_26 {d : Nat} {F : xQ} {b : Nat × Nat} {I : xI} {L : xL} {z : Nat}  (hd : 0 ≤ d) (h : F (some (.int 1)) (xS I L (true, false, z))) : h_X9_image_10_26 d F b I L z  :=
  (xgo b_X9_image_10_26 h)
def h_X9_fresh_01_0 (d : Nat) (F : xQ) (b : Nat × Nat) (I : xI) (L : xL) (z : Nat)  : Prop := xEX k_X9_fresh 4 (xCd d) F 0 [some (.ref 66)] [] (xS I L (false, true, z)) b
def h_X9_fresh_01_26 (d : Nat) (F : xQ) (b : Nat × Nat) (I : xI) (L : xL) (z : Nat)  : Prop := xEX k_X9_fresh 4 (xCd d) F 26 [some (.ref 66)] [] (xS I L (false, true, z)) b
set_option maxRecDepth 100000 in
theorem g_X9_fresh_01_0 {d : Nat} {F : xQ} {b : Nat × Nat} {I : xI} {L : xL} {z : Nat}  (hd : 0 ≤ d) (h : xCd d 295 [.ref 158, .ref 66] (xS I L (false, true, z)) (fun r τ => xEX k_X9_fresh 4 (xCd d) F 26 [some (.ref 66)] (r.toList ++ []) τ b)) : h_X9_fresh_01_0 d F b I L z  :=
  (xgo b_X9_fresh_01_0 h)
theorem c_X9_fresh_01 {d : Nat} {F : xQ} {I : xI} {L : xL} {z : Nat}  (h : h_X9_fresh_01_0 d F (46, 5872) I L z ) : xCd (d + 1) 233 [.ref 66] (xS I L (false, true, z)) F :=
  xin_ (T := k_X9_fresh) (rt := 4) (ls := [some (.ref 66)]) rfl rfl rfl rfl h
set_option maxRecDepth 100000 in
theorem g_X9_fresh_01_26 {d : Nat} {F : xQ} {b : Nat × Nat} {I : xI} {L : xL} {z : Nat}  (hd : 0 ≤ d) (h : F (some (.ref 158)) (xS I L (false, true, z))) : h_X9_fresh_01_26 d F b I L z  :=
  (xgo b_X9_fresh_01_26 h)
def h_X9_image_11_0 (d : Nat) (F : xQ) (b : Nat × Nat) (I : xI) (L : xL) (z : Nat)  : Prop := xEX k_X9_image 1 (xCd d) F 0 [some (.ref 66)] [] (xS I L (true, true, z)) b
def h_X9_image_11_26 (d : Nat) (F : xQ) (b : Nat × Nat) (I : xI) (L : xL) (z : Nat)  : Prop := xEX k_X9_image 1 (xCd d) F 26 [some (.ref 66)] [] (xS I L (true, true, z)) b
set_option maxRecDepth 100000 in
theorem g_X9_image_11_0 {d : Nat} {F : xQ} {b : Nat × Nat} {I : xI} {L : xL} {z : Nat}  (hd : 0 ≤ d) (h : xCd d 295 [.ref 112, .ref 66] (xS I L (true, true, z)) (fun r τ => xEX k_X9_image 1 (xCd d) F 26 [some (.ref 66)] (r.toList ++ []) τ b)) : h_X9_image_11_0 d F b I L z  :=
  (xgo b_X9_image_11_0 h)
theorem c_X9_image_11 {d : Nat} {F : xQ} {I : xI} {L : xL} {z : Nat}  (h : h_X9_image_11_0 d F (46, 5872) I L z ) : xCd (d + 1) 296 [.ref 66] (xS I L (true, true, z)) F :=
  xin_ (T := k_X9_image) (rt := 1) (ls := [some (.ref 66)]) rfl rfl rfl rfl h
set_option maxRecDepth 100000 in
theorem g_X9_image_11_26 {d : Nat} {F : xQ} {b : Nat × Nat} {I : xI} {L : xL} {z : Nat}  (hd : 0 ≤ d) (h : F (some (.int 1)) (xS I L (true, true, z))) : h_X9_image_11_26 d F b I L z  :=
  (xgo b_X9_image_11_26 h)
def h_X9_fresh_11_0 (d : Nat) (F : xQ) (b : Nat × Nat) (I : xI) (L : xL) (z : Nat)  : Prop := xEX k_X9_fresh 4 (xCd d) F 0 [some (.ref 66)] [] (xS I L (true, true, z)) b
def h_X9_fresh_11_26 (d : Nat) (F : xQ) (b : Nat × Nat) (I : xI) (L : xL) (z : Nat)  : Prop := xEX k_X9_fresh 4 (xCd d) F 26 [some (.ref 66)] [] (xS I L (true, true, z)) b
set_option maxRecDepth 100000 in
theorem g_X9_fresh_11_0 {d : Nat} {F : xQ} {b : Nat × Nat} {I : xI} {L : xL} {z : Nat}  (hd : 0 ≤ d) (h : xCd d 295 [.ref 158, .ref 66] (xS I L (true, true, z)) (fun r τ => xEX k_X9_fresh 4 (xCd d) F 26 [some (.ref 66)] (r.toList ++ []) τ b)) : h_X9_fresh_11_0 d F b I L z  :=
  (xgo b_X9_fresh_11_0 h)
theorem c_X9_fresh_11 {d : Nat} {F : xQ} {I : xI} {L : xL} {z : Nat}  (h : h_X9_fresh_11_0 d F (46, 5872) I L z ) : xCd (d + 1) 233 [.ref 66] (xS I L (true, true, z)) F :=
  xin_ (T := k_X9_fresh) (rt := 4) (ls := [some (.ref 66)]) rfl rfl rfl rfl h
set_option maxRecDepth 100000 in
theorem g_X9_fresh_11_26 {d : Nat} {F : xQ} {b : Nat × Nat} {I : xI} {L : xL} {z : Nat}  (hd : 0 ≤ d) (h : F (some (.ref 158)) (xS I L (true, true, z))) : h_X9_fresh_11_26 d F b I L z  :=
  (xgo b_X9_fresh_11_26 h)
