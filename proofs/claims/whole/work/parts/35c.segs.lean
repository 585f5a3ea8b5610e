def h_X7_likeliestAt_0 (d : Nat) (F : xQ) (b : Nat × Nat) (I : xI) (L : xL) (z : Bool × Bool × Nat) (a1 : Int32) : Prop := xEX k_X7_likeliestAt 1 (xCd d) F 0 [some (.ref 37), some (.int a1), none, none] [] (xS I L z) b
def h_X7_likeliestAt_4 (d : Nat) (F : xQ) (b : Nat × Nat) (I : xI) (L : xL) (z : Bool × Bool × Nat) (a1 : Int32) (a2 : Int32) (a3 : Int32) : Prop := xEX k_X7_likeliestAt 1 (xCd d) F 4 [some (.ref 37), some (.int a1), some (.int a2), some (.int a3)] [] (xS I L z) b
set_option maxRecDepth 100000 in
theorem g_X7_likeliestAt_0 {d : Nat} {F : xQ} {b : Nat × Nat} {I : xI} {L : xL} {z : Bool × Bool × Nat} {a1 : Int32} (hd : 1 ≤ d) (h : h_X7_likeliestAt_4 d F b I L z a1 0 1) : h_X7_likeliestAt_0 d F b I L z a1 :=
  (xgo b_X7_likeliestAt_0 h)
theorem c_X7_likeliestAt {d : Nat} {F : xQ} {I : xI} {L : xL} {z : Bool × Bool × Nat} {a1 : Int32} (h : h_X7_likeliestAt_0 d F (0, 0) I L z a1) : xCd (d + 1) 128 [.ref 37, .int a1] (xS I L z) F :=
  xin_ (T := k_X7_likeliestAt) (rt := 1) (ls := [some (.ref 37), some (.int a1), none, none]) rfl rfl rfl rfl h
set_option maxRecDepth 100000 in
theorem g_X7_likeliestAt_4 {d : Nat} {F : xQ} {b : Nat × Nat} {I : xI} {L : xL} {z : Bool × Bool × Nat} {a1 : Int32} {a2 : Int32} {a3 : Int32} (hd : 1 ≤ d) (h : (if a3 < 6 then (if (f_X7_howManyStand I L a1 a2) < (f_X7_howManyStand I L a1 a3) then h_X7_likeliestAt_4 d F b I L z a1 a3 (a3 + 1) else h_X7_likeliestAt_4 d F b I L z a1 a2 (a3 + 1)) else F (some (.int a2)) (xS I L z))) : h_X7_likeliestAt_4 d F b I L z a1 a2 a3 :=
  (xgo b_X7_likeliestAt_4 (xite (fun c1239 h1239 => (xuse1 s_X7_howManyStand (Nat.le_trans (by decide) hd) (xgo b_X7_likeliestAt_16 (xuse1 s_X7_howManyStand (Nat.le_trans (by decide) hd) (xgo b_X7_likeliestAt_22 h1239))))) (fun c1239 h1239 => h1239) h))
def h_X7_isKnown_0 (d : Nat) (F : xQ) (b : Nat × Nat) (I : xI) (L : xL) (z : Bool × Bool × Nat) (a1 : Int32) : Prop := xEX k_X7_isKnown 2 (xCd d) F 0 [some (.ref 37), some (.int a1)] [] (xS I L z) b
def h_X7_isKnown_5 (d : Nat) (F : xQ) (b : Nat × Nat) (I : xI) (L : xL) (z : Bool × Bool × Nat) (a1 : Int32) (s0 : Int32) : Prop := xEX k_X7_isKnown 2 (xCd d) F 5 [some (.ref 37), some (.int a1)] [.int s0] (xS I L z) b
set_option maxRecDepth 100000 in
theorem g_X7_isKnown_0 {d : Nat} {F : xQ} {b : Nat × Nat} {I : xI} {L : xL} {z : Bool × Bool × Nat} {a1 : Int32} (hd : 1 ≤ d) (h : xCd d 127 [.ref 37, .int a1] (xS I L z) (fun r τ => xEX k_X7_isKnown 2 (xCd d) F 5 [some (.ref 37), some (.int a1)] (r.toList ++ []) τ b)) : h_X7_isKnown_0 d F b I L z a1 :=
  (xgo b_X7_isKnown_0 h)
theorem c_X7_isKnown {d : Nat} {F : xQ} {I : xI} {L : xL} {z : Bool × Bool × Nat} {a1 : Int32} (h : h_X7_isKnown_0 d F (0, 0) I L z a1) : xCd (d + 1) 129 [.ref 37, .int a1] (xS I L z) F :=
  xin_ (T := k_X7_isKnown) (rt := 2) (ls := [some (.ref 37), some (.int a1)]) rfl rfl rfl rfl h
set_option maxRecDepth 100000 in
theorem g_X7_isKnown_5 {d : Nat} {F : xQ} {b : Nat × Nat} {I : xI} {L : xL} {z : Bool × Bool × Nat} {a1 : Int32} {s0 : Int32} (hd : 1 ≤ d) (h : (if 1 < (f_J6_bitCount_0f7a4 I L s0) then F (some (.int 0)) (xS I L z) else F (some (.int 1)) (xS I L z))) : h_X7_isKnown_5 d F b I L z a1 s0 :=
  (xgo b_X7_isKnown_5 (xuse1 s_J6_bitCount_0f7a4 (Nat.le_trans (by decide) hd) (xgo b_X7_isKnown_8 h)))
def h_X7_knownPlaces_0 (d : Nat) (F : xQ) (b : Nat × Nat) (I : xI) (L : xL) (z : Bool × Bool × Nat)  : Prop := xEX k_X7_knownPlaces 1 (xCd d) F 0 [some (.ref 37), none, none] [] (xS I L z) b
def h_X7_knownPlaces_4 (d : Nat) (F : xQ) (b : Nat × Nat) (I : xI) (L : xL) (z : Bool × Bool × Nat) (a1 : Int32) (a2 : Int32) : Prop := xEX k_X7_knownPlaces 1 (xCd d) F 4 [some (.ref 37), some (.int a1), some (.int a2)] [] (xS I L z) b
def h_X7_knownPlaces_20 (d : Nat) (F : xQ) (b : Nat × Nat) (I : xI) (L : xL) (z : Bool × Bool × Nat) (a1 : Int32) (a2 : Int32) (s0 : Int32) : Prop := xEX k_X7_knownPlaces 1 (xCd d) F 20 [some (.ref 37), some (.int a1), some (.int a2)] [.int s0] (xS I L z) b
set_option maxRecDepth 100000 in
theorem g_X7_knownPlaces_0 {d : Nat} {F : xQ} {b : Nat × Nat} {I : xI} {L : xL} {z : Bool × Bool × Nat}  (hd : 0 ≤ d) (h : h_X7_knownPlaces_4 d F b I L z 0 0) : h_X7_knownPlaces_0 d F b I L z  :=
  (xgo b_X7_knownPlaces_0 h)
theorem c_X7_knownPlaces {d : Nat} {F : xQ} {I : xI} {L : xL} {z : Bool × Bool × Nat}  (h : h_X7_knownPlaces_0 d F (0, 0) I L z ) : xCd (d + 1) 130 [.ref 37] (xS I L z) F :=
  xin_ (T := k_X7_knownPlaces) (rt := 1) (ls := [some (.ref 37), none, none]) rfl rfl rfl rfl h
set_option maxRecDepth 100000 in
theorem g_X7_knownPlaces_4 {d : Nat} {F : xQ} {b : Nat × Nat} {I : xI} {L : xL} {z : Bool × Bool × Nat} {a1 : Int32} {a2 : Int32} (hd : 0 ≤ d) (h : (if a2 < (I 10 0) then xCd d 129 [.ref 37, .int a2] (xS I L z) (fun r τ => xEX k_X7_knownPlaces 1 (xCd d) F 20 [some (.ref 37), some (.int a1), some (.int a2)] (r.toList ++ []) τ b) else F (some (.int a1)) (xS I L z))) : h_X7_knownPlaces_4 d F b I L z a1 a2 :=
  (xgo b_X7_knownPlaces_4 h)
set_option maxRecDepth 100000 in
theorem g_X7_knownPlaces_20 {d : Nat} {F : xQ} {b : Nat × Nat} {I : xI} {L : xL} {z : Bool × Bool × Nat} {a1 : Int32} {a2 : Int32} {s0 : Int32} (hd : 0 ≤ d) (h : (if s0 = 0 then h_X7_knownPlaces_4 d F b I L z a1 (a2 + 1) else h_X7_knownPlaces_4 d F b I L z (a1 ||| ((1 : Int32) <<< (a2 &&& 31))) (a2 + 1))) : h_X7_knownPlaces_20 d F b I L z a1 a2 s0 :=
  (xgo b_X7_knownPlaces_20 h)
def h_X7_oddAt_0 (d : Nat) (F : xQ) (b : Nat × Nat) (I : xI) (L : xL) (z : Bool × Bool × Nat) (a1 : Int32) : Prop := xEX k_X7_oddAt 1 (xCd d) F 0 [some (.ref 37), some (.int a1), none, none] [] (xS I L z) b
def h_X7_oddAt_4 (d : Nat) (F : xQ) (b : Nat × Nat) (I : xI) (L : xL) (z : Bool × Bool × Nat) (a1 : Int32) (a2 : Int32) (a3 : Int32) : Prop := xEX k_X7_oddAt 1 (xCd d) F 4 [some (.ref 37), some (.int a1), some (.int a2), some (.int a3)] [] (xS I L z) b
def h_X7_oddAt_18 (d : Nat) (F : xQ) (b : Nat × Nat) (I : xI) (L : xL) (z : Bool × Bool × Nat) (a1 : Int32) (a2 : Int32) (a3 : Int32) (s0 : Int32) : Prop := xEX k_X7_oddAt 1 (xCd d) F 18 [some (.ref 37), some (.int a1), some (.int a2), some (.int a3)] [.int s0] (xS I L z) b
set_option maxRecDepth 100000 in
theorem g_X7_oddAt_0 {d : Nat} {F : xQ} {b : Nat × Nat} {I : xI} {L : xL} {z : Bool × Bool × Nat} {a1 : Int32} (hd : 1 ≤ d) (h : h_X7_oddAt_4 d F b I L z a1 0 0) : h_X7_oddAt_0 d F b I L z a1 :=
  (xgo b_X7_oddAt_0 h)
theorem c_X7_oddAt {d : Nat} {F : xQ} {I : xI} {L : xL} {z : Bool × Bool × Nat} {a1 : Int32} (h : h_X7_oddAt_0 d F (0, 0) I L z a1) : xCd (d + 1) 131 [.ref 37, .int a1] (xS I L z) F :=
  xin_ (T := k_X7_oddAt) (rt := 1) (ls := [some (.ref 37), some (.int a1), none, none]) rfl rfl rfl rfl h
set_option maxRecDepth 100000 in
theorem g_X7_oddAt_4 {d : Nat} {F : xQ} {b : Nat × Nat} {I : xI} {L : xL} {z : Bool × Bool × Nat} {a1 : Int32} {a2 : Int32} {a3 : Int32} (hd : 1 ≤ d) (h : (if a3 < 6 then xCd d 104 [.ref 10, .int a3] (xS I L z) (fun r τ => xEX k_X7_oddAt 1 (xCd d) F 18 [some (.ref 37), some (.int a1), some (.int a2), some (.int a3)] (r.toList ++ []) τ b) else F (some (.int a2)) (xS I L z))) : h_X7_oddAt_4 d F b I L z a1 a2 a3 :=
  (xgo b_X7_oddAt_4 h)
set_option maxRecDepth 100000 in
theorem g_X7_oddAt_18 {d : Nat} {F : xQ} {b : Nat × Nat} {I : xI} {L : xL} {z : Bool × Bool × Nat} {a1 : Int32} {a2 : Int32} {a3 : Int32} {s0 : Int32} (hd : 1 ≤ d) (h : (if s0 = 1 then h_X7_oddAt_4 d F b I L z a1 (a2 + (f_X7_howManyStand I L a1 a3)) (a3 + 1) else h_X7_oddAt_4 d F b I L z a1 a2 (a3 + 1))) : h_X7_oddAt_18 d F b I L z a1 a2 a3 s0 :=
  (xgo b_X7_oddAt_18 (xite (fun c1247 h1247 => (xuse1 s_X7_howManyStand (Nat.le_trans (by decide) hd) (xgo b_X7_oddAt_29 h1247))) (fun c1247 h1247 => h1247) h))
def h_X8_row_0 (d : Nat) (F : xQ) (b : Nat × Nat) (I : xI) (L : xL) (z : Bool × Bool × Nat) (a1 : Int32) (a2 : Int32) (a3 : Int32) : Prop := xEX k_X8_row 1 (xCd d) F 0 [some (.ref 9), some (.int a1), some (.int a2), some (.int a3)] [] (xS I L z) b
def h_X8_row_38 (d : Nat) (F : xQ) (b : Nat × Nat) (I : xI) (L : xL) (z : Bool × Bool × Nat) (a1 : Int32) (a2 : Int32) (a3 : Int32) : Prop := xEX k_X8_row 1 (xCd d) F 38 [some (.ref 9), some (.int a1), some (.int a2), some (.int a3)] [] (xS I L z) b
set_option maxRecDepth 100000 in
theorem g_X8_row_0 {d : Nat} {F : xQ} {b : Nat × Nat} {I : xI} {L : xL} {z : Bool × Bool × Nat} {a1 : Int32} {a2 : Int32} {a3 : Int32} (hd : 1 ≤ d) (h : (if p_X2_isShelf I L a1 then (if p_X2_isSort I L a2 then (if p_X2_isSize I L a3 then xCd d 44 [.ref 57, .int a1, .int a2, .int a3] (xS I L z) (fun r τ => xEX k_X8_row 1 (xCd d) F 38 [some (.ref 9), some (.int a1), some (.int a2), some (.int a3)] (r.toList ++ []) τ b) else F (some (.int (-2 : Int32))) (xS (xrfu I (-2 : Int32)) L z)) else F (some (.int (-2 : Int32))) (xS (xrfu I (-2 : Int32)) L z)) else F (some (.int (-2 : Int32))) (xS (xrfu I (-2 : Int32)) L z))) : h_X8_row_0 d F b I L z a1 a2 a3 :=
  (xgo b_X8_row_0 (xuse1 s_X2_isShelf (Nat.le_trans (by decide) hd) (xgo b_X8_row_4 (xiteB (fun c1251 h1251 => (xuse1 s_X2_isSort (Nat.le_trans (by decide) hd) (xgo b_X8_row_11 (xiteB (fun c1252 h1252 => (xuse1 s_X2_isSize (Nat.le_trans (by decide) hd) (xgo b_X8_row_18 (xiteB (fun c1253 h1253 => h1253) (fun c1253 h1253 => (xuse1 s_X8_refuse (Nat.le_trans (by decide) hd) (xgo b_X8_row_27 h1253))) h1252)))) (fun c1252 h1252 => (xuse1 s_X8_refuse (Nat.le_trans (by decide) hd) (xgo b_X8_row_27 h1252))) h1251)))) (fun c1251 h1251 => (xuse1 s_X8_refuse (Nat.le_trans (by decide) hd) (xgo b_X8_row_27 h1251))) h))))
theorem c_X8_row {d : Nat} {F : xQ} {I : xI} {L : xL} {z : Bool × Bool × Nat} {a1 : Int32} {a2 : Int32} {a3 : Int32} (h : h_X8_row_0 d F (0, 0) I L z a1 a2 a3) : xCd (d + 1) 133 [.ref 9, .int a1, .int a2, .int a3] (xS I L z) F :=
  xin_ (T := k_X8_row) (rt := 1) (ls := [some (.ref 9), some (.int a1), some (.int a2), some (.int a3)]) rfl rfl rfl rfl h
set_option maxRecDepth 100000 in
theorem g_X8_row_38 {d : Nat} {F : xQ} {b : Nat × Nat} {I : xI} {L : xL} {z : Bool × Bool × Nat} {a1 : Int32} {a2 : Int32} {a3 : Int32} (hd : 1 ≤ d) (h : F (some (.int 1)) (xS I L z)) : h_X8_row_38 d F b I L z a1 a2 a3 :=
  (xgo b_X8_row_38 h)
def h_X8_copy_0 (d : Nat) (F : xQ) (b : Nat × Nat) (I : xI) (L : xL) (z : Bool × Bool × Nat) (a1 : Int32) (a2 : Int32) (a3 : Int32) (a4 : Int32) (a5 : Int32) : Prop := xEX k_X8_copy 1 (xCd d) F 0 [some (.ref 9), some (.int a1), some (.int a2), some (.int a3), some (.int a4), some (.int a5), none] [] (xS I L z) b
def h_X8_copy_9 (d : Nat) (F : xQ) (b : Nat × Nat) (I : xI) (L : xL) (z : Bool × Bool × Nat) (a1 : Int32) (a2 : Int32) (a3 : Int32) (a4 : Int32) (a5 : Int32) (s0 : Int32) : Prop := xEX k_X8_copy 1 (xCd d) F 9 [some (.ref 9), some (.int a1), some (.int a2), some (.int a3), some (.int a4), some (.int a5), none] [.int s0] (xS I L z) b
set_option maxRecDepth 100000 in
theorem g_X8_copy_0 {d : Nat} {F : xQ} {b : Nat × Nat} {I : xI} {L : xL} {z : Bool × Bool × Nat} {a1 : Int32} {a2 : Int32} {a3 : Int32} {a4 : Int32} {a5 : Int32} (hd : 3 ≤ d) (h : xCd d 41 [.ref 57, .int a1, .int a2] (xS I L z) (fun r τ => xEX k_X8_copy 1 (xCd d) F 9 [some (.ref 9), some (.int a1), some (.int a2), some (.int a3), some (.int a4), some (.int a5), none] (r.toList ++ []) τ b)) : h_X8_copy_0 d F b I L z a1 a2 a3 a4 a5 :=
  (xgo b_X8_copy_0 h)
theorem c_X8_copy {d : Nat} {F : xQ} {I : xI} {L : xL} {z : Bool × Bool × Nat} {a1 : Int32} {a2 : Int32} {a3 : Int32} {a4 : Int32} {a5 : Int32} (h : h_X8_copy_0 d F (0, 0) I L z a1 a2 a3 a4 a5) : xCd (d + 1) 135 [.ref 9, .int a1, .int a2, .int a3, .int a4, .int a5] (xS I L z) F :=
  xin_ (T := k_X8_copy) (rt := 1) (ls := [some (.ref 9), some (.int a1), some (.int a2), some (.int a3), some (.int a4), some (.int a5), none]) rfl rfl rfl rfl h
set_option maxRecDepth 100000 in
theorem g_X8_copy_9 {d : Nat} {F : xQ} {b : Nat × Nat} {I : xI} {L : xL} {z : Bool × Bool × Nat} {a1 : Int32} {a2 : Int32} {a3 : Int32} {a4 : Int32} {a5 : Int32} {s0 : Int32} (hd : 3 ≤ d) (h : (if s0 = 0 then (if p_X2_hasElements I L a1 a3 a5 then (if p_X2_hasElements I L a2 a4 a5 then (if xcpOK a5 ((a2 * 40) + a4) ((a1 * 40) + a3) (320) (320) then F (some (.int a5)) (xS I (xcpl L (60) (Int32.toNatClampNeg ((a1 * 40) + a3)) (60) (Int32.toNatClampNeg ((a2 * 40) + a4)) (Int32.toNatClampNeg a5)) z) else False) else F (some (.int (-2 : Int32))) (xS (xrfu I (-2 : Int32)) L z)) else F (some (.int (-2 : Int32))) (xS (xrfu I (-2 : Int32)) L z)) else F (some (.int s0)) (xS (xrfu I s0) L z))) : h_X8_copy_9 d F b I L z a1 a2 a3 a4 a5 s0 :=
  (xgo b_X8_copy_9 (xite (fun c1254 h1254 => (xuse1 s_X2_hasElements (Nat.le_trans (by decide) hd) (xgo b_X8_copy_34 (xiteB (fun c1255 h1255 => (xuse1 s_X2_hasElements (Nat.le_trans (by decide) hd) (xgo b_X8_copy_49 (xiteB (fun c1256 h1256 => (xupD (c_X2_copyElements (xitT c1255 (xitT c1256 (xite (fun c1257 h1257 => (xgo b_X8_copy_73 h1257)) (fun c1257 h1257 => h1257) h1256)))) (Nat.le_trans (by decide) hd))) (fun c1256 h1256 => (xuse1 s_X8_refuse (Nat.le_trans (by decide) hd) (xgo b_X8_copy_58 h1256))) h1255)))) (fun c1255 h1255 => (xuse1 s_X8_refuse (Nat.le_trans (by decide) hd) (xgo b_X8_copy_58 h1255))) h1254)))) (fun c1254 h1254 => (xuse1 s_X8_refuse (Nat.le_trans (by decide) hd) (xgo b_X8_copy_22 h1254))) h))
def h_X8_says_0 (d : Nat) (F : xQ) (b : Nat × Nat) (I : xI) (L : xL) (z : Bool × Bool × Nat) (a1 : Int32) (a2 : Int32) : Prop := xEX k_X8_says 1 (xCd d) F 0 [some (.ref 9), some (.int a1), some (.int a2), none, none] [] (xS I L z) b
def h_X8_says_73 (d : Nat) (F : xQ) (b : Nat × Nat) (I : xI) (L : xL) (z : Bool × Bool × Nat) (a1 : Int32) (a2 : Int32) (a3 : Int32) (a4 : Int32) (s0 : Int32) : Prop := xEX k_X8_says 1 (xCd d) F 73 [some (.ref 9), some (.int a1), some (.int a2), some (.int a3), some (.int a4)] [.int s0] (xS I L z) b
def h_X8_says_104 (d : Nat) (F : xQ) (b : Nat × Nat) (I : xI) (L : xL) (z : Bool × Bool × Nat) (a1 : Int32) (a2 : Int32) (a3 : Int32) (a4 : Int32) : Prop := xEX k_X8_says 1 (xCd d) F 104 [some (.ref 9), some (.int a1), some (.int a2), some (.int a3), some (.int a4)] [] (xS I L z) b
def h_X8_says_113 (d : Nat) (F : xQ) (b : Nat × Nat) (I : xI) (L : xL) (z : Bool × Bool × Nat) (a1 : Int32) (a2 : Int32) (a3 : Int32) (a4 : Int32) (s0 : Int32) : Prop := xEX k_X8_says 1 (xCd d) F 113 [some (.ref 9), some (.int a1), some (.int a2), some (.int a3), some (.int a4)] [.int s0] (xS I L z) b
set_option maxRecDepth 100000 in
theorem g_X8_says_0 {d : Nat} {F : xQ} {b : Nat × Nat} {I : xI} {L : xL} {z : Bool × Bool × Nat} {a1 : Int32} {a2 : Int32} (hd : 2 ≤ d) (h : (if p_X2_isShelf I L a1 then (if p_X5_isKind I L a2 then (if (f_X2_thingOf I L a1) = (-1 : Int32) then F (some (.int (-4 : Int32))) (xS (xrfu I (-4 : Int32)) L z) else (if p_X6_hasTeller I L ((f_X2_thingOf I L a1) - 10) then xCd d 74 [.int (f_X6_kindOf I L ((f_X2_thingOf I L a1) - 10)), .int a2] (xS I L z) (fun r τ => xEX k_X8_says 1 (xCd d) F 73 [some (.ref 9), some (.int a1), some (.int a2), some (.int (f_X2_thingOf I L a1)), some (.int ((f_X2_thingOf I L a1) - 10))] (r.toList ++ []) τ b) else F (some (.int (-3 : Int32))) (xS (xrfu I (-3 : Int32)) L z))) else F (some (.int (-2 : Int32))) (xS (xrfu I (-2 : Int32)) L z)) else F (some (.int (-2 : Int32))) (xS (xrfu I (-2 : Int32)) L z))) : h_X8_says_0 d F b I L z a1 a2 :=
  (xgo b_X8_says_0 (xuse1 s_X2_isShelf (Nat.le_trans (by decide) hd) (xgo b_X8_says_4 (xiteB (fun c1274 h1274 => (xuse1 s_X5_isKind (Nat.le_trans (by decide) hd) (xgo b_X8_says_11 (xiteB (fun c1275 h1275 => (xuse1 s_X2_thingOf (Nat.le_trans (by decide) hd) (xgo b_X8_says_29 (xite (fun c1276 h1276 => (xuse1 s_X8_refuse (Nat.le_trans (by decide) hd) (xgo b_X8_says_41 h1276))) (fun c1276 h1276 => (xuse1 s_X6_hasTeller (Nat.le_trans (by decide) hd) (xgo b_X8_says_57 (xiteB (fun c1277 h1277 => (xuse1 s_X6_kindOf (Nat.le_trans (by decide) hd) (xgo b_X8_says_69 h1277))) (fun c1277 h1277 => (xuse1 s_X8_refuse (Nat.le_trans (by decide) hd) (xgo b_X8_says_82 h1277))) h1276)))) h1275)))) (fun c1275 h1275 => (xuse1 s_X8_refuse (Nat.le_trans (by decide) hd) (xgo b_X8_says_20 h1275))) h1274)))) (fun c1274 h1274 => (xuse1 s_X8_refuse (Nat.le_trans (by decide) hd) (xgo b_X8_says_20 h1274))) h))))
theorem c_X8_says {d : Nat} {F : xQ} {I : xI} {L : xL} {z : Bool × Bool × Nat} {a1 : Int32} {a2 : Int32} (h : h_X8_says_0 d F (0, 0) I L z a1 a2) : xCd (d + 1) 139 [.ref 9, .int a1, .int a2] (xS I L z) F :=
  xin_ (T := k_X8_says) (rt := 1) (ls := [some (.ref 9), some (.int a1), some (.int a2), none, none]) rfl rfl rfl rfl h
set_option maxRecDepth 100000 in
theorem g_X8_says_73 {d : Nat} {F : xQ} {b : Nat × Nat} {I : xI} {L : xL} {z : Bool × Bool × Nat} {a1 : Int32} {a2 : Int32} {a3 : Int32} {a4 : Int32} {s0 : Int32} (hd : 2 ≤ d) (h : (if s0 = 0 then F (some (.int (-3 : Int32))) (xS (xrfu I (-3 : Int32)) L z) else (if a2 = 0 then F (some (.int (f_X6_tellerNumberOf I L a4))) (xS I L z) else xCd d 114 [.ref 37] (xS I L z) (fun r τ => xEX k_X8_says 1 (xCd d) F 104 [some (.ref 9), some (.int a1), some (.int a2), some (.int a3), some (.int a4)] (r.toList ++ []) τ b)))) : h_X8_says_73 d F b I L z a1 a2 a3 a4 s0 :=
  (xgo b_X8_says_73 (xite (fun c1278 h1278 => (xuse1 s_X8_refuse (Nat.le_trans (by decide) hd) (xgo b_X8_says_82 h1278))) (fun c1278 h1278 => (xite (fun c1279 h1279 => (xuse1 s_X6_tellerNumberOf (Nat.le_trans (by decide) hd) (xgo b_X8_says_96 h1279))) (fun c1279 h1279 => h1279) h1278)) h))
set_option maxRecDepth 100000 in
theorem g_X8_says_104 {d : Nat} {F : xQ} {b : Nat × Nat} {I : xI} {L : xL} {z : Bool × Bool × Nat} {a1 : Int32} {a2 : Int32} {a3 : Int32} {a4 : Int32} (hd : 2 ≤ d) (h : xCd d 75 [.ref 56, .int a4] (xS I L z) (fun r τ => xEX k_X8_says 1 (xCd d) F 113 [some (.ref 9), some (.int a1), some (.int a2), some (.int a3), some (.int a4)] (r.toList ++ []) τ b)) : h_X8_says_104 d F b I L z a1 a2 a3 a4 :=
  (xgo b_X8_says_104 h)
set_option maxRecDepth 100000 in
theorem g_X8_says_113 {d : Nat} {F : xQ} {b : Nat × Nat} {I : xI} {L : xL} {z : Bool × Bool × Nat} {a1 : Int32} {a2 : Int32} {a3 : Int32} {a4 : Int32} {s0 : Int32} (hd : 2 ≤ d) (h : F (some (.int s0)) (xS I L z)) : h_X8_says_113 d F b I L z a1 a2 a3 a4 s0 :=
  (xgo b_X8_says_113 h)
def h_X8_cups_0 (d : Nat) (F : xQ) (b : Nat × Nat) (I : xI) (L : xL) (z : Bool × Bool × Nat) (a1 : Int32) : Prop := xEX k_X8_cups 1 (xCd d) F 0 [some (.ref 9), some (.int a1), none] [] (xS I L z) b
def h_X8_cups_34 (d : Nat) (F : xQ) (b : Nat × Nat) (I : xI) (L : xL) (z : Bool × Bool × Nat) (a1 : Int32) (a2 : Int32) : Prop := xEX k_X8_cups 1 (xCd d) F 34 [some (.ref 9), some (.int a1), some (.int a2)] [] (xS I L z) b
set_option maxRecDepth 100000 in
theorem g_X8_cups_0 {d : Nat} {F : xQ} {b : Nat × Nat} {I : xI} {L : xL} {z : Bool × Bool × Nat} {a1 : Int32} (hd : 1 ≤ d) (h : (if a1 < 2 then F (some (.int (-2 : Int32))) (xS (xrfu I (-2 : Int32)) L z) else (if 6 < a1 then F (some (.int (-2 : Int32))) (xS (xrfu I (-2 : Int32)) L z) else xCd d 87 [.ref 10, .int a1] (xS I L z) (fun r τ => xEX k_X8_cups 1 (xCd d) F 34 [some (.ref 9), some (.int a1), some (.int (I 10 0))] (r.toList ++ []) τ b)))) : h_X8_cups_0 d F b I L z a1 :=
  (xgo b_X8_cups_0 (xite (fun c1282 h1282 => (xuse1 s_X8_refuse (Nat.le_trans (by decide) hd) (xgo b_X8_cups_17 h1282))) (fun c1282 h1282 => (xite (fun c1283 h1283 => (xuse1 s_X8_refuse (Nat.le_trans (by decide) hd) (xgo b_X8_cups_17 h1283))) (fun c1283 h1283 => h1283) h1282)) h))
theorem c_X8_cups {d : Nat} {F : xQ} {I : xI} {L : xL} {z : Bool × Bool × Nat} {a1 : Int32} (h : h_X8_cups_0 d F (0, 0) I L z a1) : xCd (d + 1) 140 [.ref 9, .int a1] (xS I L z) F :=
  xin_ (T := k_X8_cups) (rt := 1) (ls := [some (.ref 9), some (.int a1), none]) rfl rfl rfl rfl h
set_option maxRecDepth 100000 in
theorem g_X8_cups_34 {d : Nat} {F : xQ} {b : Nat × Nat} {I : xI} {L : xL} {z : Bool × Bool × Nat} {a1 : Int32} {a2 : Int32} (hd : 1 ≤ d) (h : F (some (.int a2)) (xS I L z)) : h_X8_cups_34 d F b I L z a1 a2 :=
  (xgo b_X8_cups_34 h)
def h_X8_pour_0 (d : Nat) (F : xQ) (b : Nat × Nat) (I : xI) (L : xL) (z : Bool × Bool × Nat) (a1 : Int32) : Prop := xEX k_X8_pour 1 (xCd d) F 0 [some (.ref 9), some (.int a1), none] [] (xS I L z) b
def h_X8_pour_5 (d : Nat) (F : xQ) (b : Nat × Nat) (I : xI) (L : xL) (z : Bool × Bool × Nat) (a1 : Int32) (s0 : Int32) : Prop := xEX k_X8_pour 1 (xCd d) F 5 [some (.ref 9), some (.int a1), none] [.int s0] (xS I L z) b
def h_X8_pour_27 (d : Nat) (F : xQ) (b : Nat × Nat) (I : xI) (L : xL) (z : Bool × Bool × Nat) (a1 : Int32) (a2 : Int32) : Prop := xEX k_X8_pour 1 (xCd d) F 27 [some (.ref 9), some (.int a1), some (.int a2)] [] (xS I L z) b
def h_X8_pour_34 (d : Nat) (F : xQ) (b : Nat × Nat) (I : xI) (L : xL) (z : Bool × Bool × Nat) (a1 : Int32) (a2 : Int32) : Prop := xEX k_X8_pour 1 (xCd d) F 34 [some (.ref 9), some (.int a1), some (.int a2)] [] (xS I L z) b
set_option maxRecDepth 100000 in
theorem g_X8_pour_0 {d : Nat} {F : xQ} {b : Nat × Nat} {I : xI} {L : xL} {z : Bool × Bool × Nat} {a1 : Int32} (hd : 1 ≤ d) (h : xCd d 179 [.ref 9, .int a1] (xS I L z) (fun r τ => xEX k_X8_pour 1 (xCd d) F 5 [some (.ref 9), some (.int a1), none] (r.toList ++ []) τ b)) : h_X8_pour_0 d F b I L z a1 :=
  (xgo b_X8_pour_0 h)
theorem c_X8_pour {d : Nat} {F : xQ} {I : xI} {L : xL} {z : Bool × Bool × Nat} {a1 : Int32} (h : h_X8_pour_0 d F (0, 0) I L z a1) : xCd (d + 1) 141 [.ref 9, .int a1] (xS I L z) F :=
  xin_ (T := k_X8_pour) (rt := 1) (ls := [some (.ref 9), some (.int a1), none]) rfl rfl rfl rfl h
set_option maxRecDepth 100000 in
theorem g_X8_pour_5 {d : Nat} {F : xQ} {b : Nat × Nat} {I : xI} {L : xL} {z : Bool × Bool × Nat} {a1 : Int32} {s0 : Int32} (hd : 1 ≤ d) (h : (if s0 = 0 then xCd d 88 [.ref 10, .ref 64] (xS I L z) (fun r τ => xEX k_X8_pour 1 (xCd d) F 27 [some (.ref 9), some (.int a1), some (.int s0)] (r.toList ++ []) τ b) else F (some (.int s0)) (xS (xrfu I s0) L z))) : h_X8_pour_5 d F b I L z a1 s0 :=
  (xgo b_X8_pour_5 (xite (fun c1286 h1286 => h1286) (fun c1286 h1286 => (xuse1 s_X8_refuse (Nat.le_trans (by decide) hd) (xgo b_X8_pour_15 h1286))) h))
set_option maxRecDepth 100000 in
theorem g_X8_pour_27 {d : Nat} {F : xQ} {b : Nat × Nat} {I : xI} {L : xL} {z : Bool × Bool × Nat} {a1 : Int32} {a2 : Int32} (hd : 1 ≤ d) (h : xCd d 114 [.ref 37] (xS I L z) (fun r τ => xEX k_X8_pour 1 (xCd d) F 34 [some (.ref 9), some (.int a1), some (.int a2)] (r.toList ++ []) τ b)) : h_X8_pour_27 d F b I L z a1 a2 :=
  (xgo b_X8_pour_27 h)
set_option maxRecDepth 100000 in
theorem g_X8_pour_34 {d : Nat} {F : xQ} {b : Nat × Nat} {I : xI} {L : xL} {z : Bool × Bool × Nat} {a1 : Int32} {a2 : Int32} (hd : 1 ≤ d) (h : F (some (.int (I 37 0))) (xS I L z)) : h_X8_pour_34 d F b I L z a1 a2 :=
  (xgo b_X8_pour_34 h)
def h_X8_sign_0 (d : Nat) (F : xQ) (b : Nat × Nat) (I : xI) (L : xL) (z : Bool × Bool × Nat) (a1 : Int32) (a2 : Int32) (a3 : Int32) : Prop := xEX k_X8_sign 1 (xCd d) F 0 [some (.ref 9), some (.int a1), some (.int a2), some (.int a3), none] [] (xS I L z) b
def h_X8_sign_33 (d : Nat) (F : xQ) (b : Nat × Nat) (I : xI) (L : xL) (z : Bool × Bool × Nat) (a1 : Int32) (a2 : Int32) (a3 : Int32) : Prop := xEX k_X8_sign 1 (xCd d) F 33 [some (.ref 9), some (.int a1), some (.int a2), some (.int a3), none] [] (xS I L z) b
def h_X8_sign_43 (d : Nat) (F : xQ) (b : Nat × Nat) (I : xI) (L : xL) (z : Bool × Bool × Nat) (a1 : Int32) (a2 : Int32) (a3 : Int32) (s0 : Int32) : Prop := xEX k_X8_sign 1 (xCd d) F 43 [some (.ref 9), some (.int a1), some (.int a2), some (.int a3), none] [.int s0] (xS I L z) b
def h_X8_sign_67 (d : Nat) (F : xQ) (b : Nat × Nat) (I : xI) (L : xL) (z : Bool × Bool × Nat) (a1 : Int32) (a2 : Int32) (a3 : Int32) (a4 : Int32) (s0 : Int32) : Prop := xEX k_X8_sign 1 (xCd d) F 67 [some (.ref 9), some (.int a1), some (.int a2), some (.int a3), some (.int a4)] [.int s0] (xS I L z) b
set_option maxRecDepth 100000 in
theorem g_X8_sign_0 {d : Nat} {F : xQ} {b : Nat × Nat} {I : xI} {L : xL} {z : Bool × Bool × Nat} {a1 : Int32} {a2 : Int32} {a3 : Int32} (hd : 2 ≤ d) (h : (if p_X6_hasPlace I L a1 then (if p_X8_canBeSeen I L a2 a3 then xCd d 114 [.ref 37] (xS I L z) (fun r τ => xEX k_X8_sign 1 (xCd d) F 33 [some (.ref 9), some (.int a1), some (.int a2), some (.int a3), none] (r.toList ++ []) τ b) else F (some (.int (-2 : Int32))) (xS (xrfu I (-2 : Int32)) L z)) else F (some (.int (-2 : Int32))) (xS (xrfu I (-2 : Int32)) L z))) : h_X8_sign_0 d F b I L z a1 a2 a3 :=
  (xgo b_X8_sign_0 (xuse1 s_X6_hasPlace (Nat.le_trans (by decide) hd) (xgo b_X8_sign_8 (xiteB (fun c1294 h1294 => (xuse1 s_X8_canBeSeen (Nat.le_trans (by decide) hd) (xgo b_X8_sign_16 (xiteB (fun c1295 h1295 => h1295) (fun c1295 h1295 => (xuse1 s_X8_refuse (Nat.le_trans (by decide) hd) (xgo b_X8_sign_25 h1295))) h1294)))) (fun c1294 h1294 => (xuse1 s_X8_refuse (Nat.le_trans (by decide) hd) (xgo b_X8_sign_25 h1294))) h))))
theorem c_X8_sign {d : Nat} {F : xQ} {I : xI} {L : xL} {z : Bool × Bool × Nat} {a1 : Int32} {a2 : Int32} {a3 : Int32} (h : h_X8_sign_0 d F (0, 0) I L z a1 a2 a3) : xCd (d + 1) 146 [.ref 9, .int a1, .int a2, .int a3] (xS I L z) F :=
  xin_ (T := k_X8_sign) (rt := 1) (ls := [some (.ref 9), some (.int a1), some (.int a2), some (.int a3), none]) rfl rfl rfl rfl h
set_option maxRecDepth 100000 in
theorem g_X8_sign_33 {d : Nat} {F : xQ} {b : Nat × Nat} {I : xI} {L : xL} {z : Bool × Bool × Nat} {a1 : Int32} {a2 : Int32} {a3 : Int32} (hd : 2 ≤ d) (h : xCd d 126 [.ref 37, .int a1, .int a2, .int a3] (xS I L z) (fun r τ => xEX k_X8_sign 1 (xCd d) F 43 [some (.ref 9), some (.int a1), some (.int a2), some (.int a3), none] (r.toList ++ []) τ b)) : h_X8_sign_33 d F b I L z a1 a2 a3 :=
  (xgo b_X8_sign_33 h)
set_option maxRecDepth 100000 in
theorem g_X8_sign_43 {d : Nat} {F : xQ} {b : Nat × Nat} {I : xI} {L : xL} {z : Bool × Bool × Nat} {a1 : Int32} {a2 : Int32} {a3 : Int32} {s0 : Int32} (hd : 2 ≤ d) (h : (if s0 = 0 then F (some (.int (-5 : Int32))) (xS (xrfu I (-5 : Int32)) L z) else xCd d 100 [.ref 10, .int a1, .int a2, .int a3] (xS I L z) (fun r τ => xEX k_X8_sign 1 (xCd d) F 67 [some (.ref 9), some (.int a1), some (.int a2), some (.int a3), some (.int s0)] (r.toList ++ []) τ b))) : h_X8_sign_43 d F b I L z a1 a2 a3 s0 :=
  (xgo b_X8_sign_43 (xite (fun c1296 h1296 => (xuse1 s_X8_refuse (Nat.le_trans (by decide) hd) (xgo b_X8_sign_56 h1296))) (fun c1296 h1296 => h1296) h))
set_option maxRecDepth 100000 in
theorem g_X8_sign_67 {d : Nat} {F : xQ} {b : Nat × Nat} {I : xI} {L : xL} {z : Bool × Bool × Nat} {a1 : Int32} {a2 : Int32} {a3 : Int32} {a4 : Int32} {s0 : Int32} (hd : 2 ≤ d) (h : (if s0 = 0 then F (some (.int (-6 : Int32))) (xS (xrfu I (-6 : Int32)) L z) else F (some (.int a4)) (xS I L z))) : h_X8_sign_67 d F b I L z a1 a2 a3 a4 s0 :=
  (xgo b_X8_sign_67 (xite (fun c1297 h1297 => (xuse1 s_X8_refuse (Nat.le_trans (by decide) hd) (xgo b_X8_sign_76 h1297))) (fun c1297 h1297 => h1297) h))
def h_X8_stair_0 (d : Nat) (F : xQ) (b : Nat × Nat) (I : xI) (L : xL) (z : Bool × Bool × Nat)  : Prop := xEX k_X8_stair 1 (xCd d) F 0 [some (.ref 9), none] [] (xS I L z) b
def h_X8_stair_11 (d : Nat) (F : xQ) (b : Nat × Nat) (I : xI) (L : xL) (z : Bool × Bool × Nat)  : Prop := xEX k_X8_stair 1 (xCd d) F 11 [some (.ref 9), none] [] (xS I L z) b
def h_X8_stair_18 (d : Nat) (F : xQ) (b : Nat × Nat) (I : xI) (L : xL) (z : Bool × Bool × Nat) (s0 : Int32) : Prop := xEX k_X8_stair 1 (xCd d) F 18 [some (.ref 9), none] [.int s0] (xS I L z) b
def h_X8_stair_43 (d : Nat) (F : xQ) (b : Nat × Nat) (I : xI) (L : xL) (z : Bool × Bool × Nat) (a1 : Int32) : Prop := xEX k_X8_stair 1 (xCd d) F 43 [some (.ref 9), some (.int a1)] [] (xS I L z) b
set_option maxRecDepth 100000 in
theorem g_X8_stair_0 {d : Nat} {F : xQ} {b : Nat × Nat} {I : xI} {L : xL} {z : Bool × Bool × Nat}  (hd : 1 ≤ d) (h : xCd d 81 [.ref 28, .ref 10] (xS I L z) (fun r τ => xEX k_X8_stair 1 (xCd d) F 11 [some (.ref 9), none] (r.toList ++ []) τ b)) : h_X8_stair_0 d F b I L z  :=
  (xgo b_X8_stair_0 h)
theorem c_X8_stair {d : Nat} {F : xQ} {I : xI} {L : xL} {z : Bool × Bool × Nat}  (h : h_X8_stair_0 d F (0, 0) I L z ) : xCd (d + 1) 150 [.ref 9] (xS I L z) F :=
  xin_ (T := k_X8_stair) (rt := 1) (ls := [some (.ref 9), none]) rfl rfl rfl rfl h
set_option maxRecDepth 100000 in
theorem g_X8_stair_11 {d : Nat} {F : xQ} {b : Nat × Nat} {I : xI} {L : xL} {z : Bool × Bool × Nat}  (hd : 1 ≤ d) (h : xCd d 57 [.ref 61] (xS I L z) (fun r τ => xEX k_X8_stair 1 (xCd d) F 18 [some (.ref 9), none] (r.toList ++ []) τ b)) : h_X8_stair_11 d F b I L z  :=
  (xgo b_X8_stair_11 h)
set_option maxRecDepth 100000 in
theorem g_X8_stair_18 {d : Nat} {F : xQ} {b : Nat × Nat} {I : xI} {L : xL} {z : Bool × Bool × Nat} {s0 : Int32} (hd : 1 ≤ d) (h : (if s0 = (-1 : Int32) then xCd d 81 [.ref 10, .ref 28] (xS (xw I 61 0 0) L z) (fun r τ => xEX k_X8_stair 1 (xCd d) F 43 [some (.ref 9), some (.int s0)] (r.toList ++ []) τ b) else F (some (.int s0)) (xS (xw I 61 0 0) L z))) : h_X8_stair_18 d F b I L z s0 :=
  (xgo b_X8_stair_18 h)
set_option maxRecDepth 100000 in
theorem g_X8_stair_43 {d : Nat} {F : xQ} {b : Nat × Nat} {I : xI} {L : xL} {z : Bool × Bool × Nat} {a1 : Int32} (hd : 1 ≤ d) (h : F (some (.int ((-20 : Int32) - ((xrfu I (-2 : Int32)) 61 1)))) (xS (xrfu I (-2 : Int32)) L z)) : h_X8_stair_43 d F b I L z a1 :=
  (xgo b_X8_stair_43 (xuse1 s_X8_refuse (Nat.le_trans (by decide) hd) (xgo b_X8_stair_49 h)))
def h_X8_worlds_0 (d : Nat) (F : xQ) (b : Nat × Nat) (I : xI) (L : xL) (z : Bool × Bool × Nat) (a1 : Int32) : Prop := xEX k_X8_worlds 1 (xCd d) F 0 [some (.ref 9), some (.int a1)] [] (xS I L z) b
def h_X8_worlds_21 (d : Nat) (F : xQ) (b : Nat × Nat) (I : xI) (L : xL) (z : Bool × Bool × Nat) (a1 : Int32) : Prop := xEX k_X8_worlds 1 (xCd d) F 21 [some (.ref 9), some (.int a1)] [] (xS I L z) b
set_option maxRecDepth 100000 in
theorem g_X8_worlds_0 {d : Nat} {F : xQ} {b : Nat × Nat} {I : xI} {L : xL} {z : Bool × Bool × Nat} {a1 : Int32} (hd : 1 ≤ d) (h : (if p_X8_isEither I L a1 then xCd d 114 [.ref 37] (xS I L z) (fun r τ => xEX k_X8_worlds 1 (xCd d) F 21 [some (.ref 9), some (.int a1)] (r.toList ++ []) τ b) else F (some (.int (-2 : Int32))) (xS (xrfu I (-2 : Int32)) L z))) : h_X8_worlds_0 d F b I L z a1 :=
  (xgo b_X8_worlds_0 (xuse1 s_X8_isEither (Nat.le_trans (by decide) hd) (xgo b_X8_worlds_4 (xiteB (fun c1301 h1301 => h1301) (fun c1301 h1301 => (xuse1 s_X8_refuse (Nat.le_trans (by decide) hd) (xgo b_X8_worlds_13 h1301))) h))))
theorem c_X8_worlds {d : Nat} {F : xQ} {I : xI} {L : xL} {z : Bool × Bool × Nat} {a1 : Int32} (h : h_X8_worlds_0 d F (0, 0) I L z a1) : xCd (d + 1) 151 [.ref 9, .int a1] (xS I L z) F :=
  xin_ (T := k_X8_worlds) (rt := 1) (ls := [some (.ref 9), some (.int a1)]) rfl rfl rfl rfl h
set_option maxRecDepth 100000 in
theorem g_X8_worlds_21 {d : Nat} {F : xQ} {b : Nat × Nat} {I : xI} {L : xL} {z : Bool × Bool × Nat} {a1 : Int32} (hd : 1 ≤ d) (h : (if a1 = 0 then F (some (.int (I 37 0))) (xS I L z) else F (some (.int (I 37 1))) (xS I L z))) : h_X8_worlds_21 d F b I L z a1 :=
  (xgo b_X8_worlds_21 h)
def h_X8_world_0 (d : Nat) (F : xQ) (b : Nat × Nat) (I : xI) (L : xL) (z : Bool × Bool × Nat) (a1 : Int32) (a2 : Int32) : Prop := xEX k_X8_world 1 (xCd d) F 0 [some (.ref 9), some (.int a1), some (.int a2)] [] (xS I L z) b
def h_X8_world_29 (d : Nat) (F : xQ) (b : Nat × Nat) (I : xI) (L : xL) (z : Bool × Bool × Nat) (a1 : Int32) (a2 : Int32) : Prop := xEX k_X8_world 1 (xCd d) F 29 [some (.ref 9), some (.int a1), some (.int a2)] [] (xS I L z) b
set_option maxRecDepth 100000 in
theorem g_X8_world_0 {d : Nat} {F : xQ} {b : Nat × Nat} {I : xI} {L : xL} {z : Bool × Bool × Nat} {a1 : Int32} {a2 : Int32} (hd : 1 ≤ d) (h : (if a1 < 0 then F (some (.int (-2 : Int32))) (xS (xrfu I (-2 : Int32)) L z) else (if p_X6_hasPlace I L a2 then xCd d 114 [.ref 37] (xS I L z) (fun r τ => xEX k_X8_world 1 (xCd d) F 29 [some (.ref 9), some (.int a1), some (.int a2)] (r.toList ++ []) τ b) else F (some (.int (-2 : Int32))) (xS (xrfu I (-2 : Int32)) L z)))) : h_X8_world_0 d F b I L z a1 a2 :=
  (xgo b_X8_world_0 (xite (fun c1305 h1305 => (xuse1 s_X8_refuse (Nat.le_trans (by decide) hd) (xgo b_X8_world_21 h1305))) (fun c1305 h1305 => (xuse1 s_X6_hasPlace (Nat.le_trans (by decide) hd) (xgo b_X8_world_12 (xiteB (fun c1306 h1306 => h1306) (fun c1306 h1306 => (xuse1 s_X8_refuse (Nat.le_trans (by decide) hd) (xgo b_X8_world_21 h1306))) h1305)))) h))
theorem c_X8_world {d : Nat} {F : xQ} {I : xI} {L : xL} {z : Bool × Bool × Nat} {a1 : Int32} {a2 : Int32} (h : h_X8_world_0 d F (0, 0) I L z a1 a2) : xCd (d + 1) 152 [.ref 9, .int a1, .int a2] (xS I L z) F :=
  xin_ (T := k_X8_world) (rt := 1) (ls := [some (.ref 9), some (.int a1), some (.int a2)]) rfl rfl rfl rfl h
set_option maxRecDepth 100000 in
theorem g_X8_world_29 {d : Nat} {F : xQ} {b : Nat × Nat} {I : xI} {L : xL} {z : Bool × Bool × Nat} {a1 : Int32} {a2 : Int32} (hd : 1 ≤ d) (h : (if a1 < (I 37 1) then F (some (.int (f_X7_sortAt I L (f_X7_possibleOf I L a1) a2))) (xS I L z) else F (some (.int (-5 : Int32))) (xS (xrfu I (-5 : Int32)) L z))) : h_X8_world_29 d F b I L z a1 a2 :=
  (xgo b_X8_world_29 (xite (fun c1307 h1307 => (xuse1 s_X7_possibleOf (Nat.le_trans (by decide) hd) (xgo b_X8_world_55 (xuse1 s_X7_sortAt (Nat.le_trans (by decide) hd) (xgo b_X8_world_59 h1307))))) (fun c1307 h1307 => (xuse1 s_X8_refuse (Nat.le_trans (by decide) hd) (xgo b_X8_world_46 h1307))) h))
def h_X8_sorts_0 (d : Nat) (F : xQ) (b : Nat × Nat) (I : xI) (L : xL) (z : Bool × Bool × Nat) (a1 : Int32) : Prop := xEX k_X8_sorts 1 (xCd d) F 0 [some (.ref 9), some (.int a1)] [] (xS I L z) b
def h_X8_sorts_25 (d : Nat) (F : xQ) (b : Nat × Nat) (I : xI) (L : xL) (z : Bool × Bool × Nat) (a1 : Int32) : Prop := xEX k_X8_sorts 1 (xCd d) F 25 [some (.ref 9), some (.int a1)] [] (xS I L z) b
def h_X8_sorts_33 (d : Nat) (F : xQ) (b : Nat × Nat) (I : xI) (L : xL) (z : Bool × Bool × Nat) (a1 : Int32) (s0 : Int32) : Prop := xEX k_X8_sorts 1 (xCd d) F 33 [some (.ref 9), some (.int a1)] [.int s0] (xS I L z) b
set_option maxRecDepth 100000 in
theorem g_X8_sorts_0 {d : Nat} {F : xQ} {b : Nat × Nat} {I : xI} {L : xL} {z : Bool × Bool × Nat} {a1 : Int32} (hd : 1 ≤ d) (h : (if p_X6_hasPlace I L a1 then xCd d 114 [.ref 37] (xS I L z) (fun r τ => xEX k_X8_sorts 1 (xCd d) F 25 [some (.ref 9), some (.int a1)] (r.toList ++ []) τ b) else F (some (.int (-2 : Int32))) (xS (xrfu I (-2 : Int32)) L z))) : h_X8_sorts_0 d F b I L z a1 :=
  (xgo b_X8_sorts_0 (xuse1 s_X6_hasPlace (Nat.le_trans (by decide) hd) (xgo b_X8_sorts_8 (xiteB (fun c1310 h1310 => h1310) (fun c1310 h1310 => (xuse1 s_X8_refuse (Nat.le_trans (by decide) hd) (xgo b_X8_sorts_17 h1310))) h))))
theorem c_X8_sorts {d : Nat} {F : xQ} {I : xI} {L : xL} {z : Bool × Bool × Nat} {a1 : Int32} (h : h_X8_sorts_0 d F (0, 0) I L z a1) : xCd (d + 1) 153 [.ref 9, .int a1] (xS I L z) F :=
  xin_ (T := k_X8_sorts) (rt := 1) (ls := [some (.ref 9), some (.int a1)]) rfl rfl rfl rfl h
set_option maxRecDepth 100000 in
theorem g_X8_sorts_25 {d : Nat} {F : xQ} {b : Nat × Nat} {I : xI} {L : xL} {z : Bool × Bool × Nat} {a1 : Int32} (hd : 1 ≤ d) (h : xCd d 127 [.ref 37, .int a1] (xS I L z) (fun r τ => xEX k_X8_sorts 1 (xCd d) F 33 [some (.ref 9), some (.int a1)] (r.toList ++ []) τ b)) : h_X8_sorts_25 d F b I L z a1 :=
  (xgo b_X8_sorts_25 h)
set_option maxRecDepth 100000 in
theorem g_X8_sorts_33 {d : Nat} {F : xQ} {b : Nat × Nat} {I : xI} {L : xL} {z : Bool × Bool × Nat} {a1 : Int32} {s0 : Int32} (hd : 1 ≤ d) (h : F (some (.int s0)) (xS I L z)) : h_X8_sorts_33 d F b I L z a1 s0 :=
  (xgo b_X8_sorts_33 h)
def h_X8_likely_0 (d : Nat) (F : xQ) (b : Nat × Nat) (I : xI) (L : xL) (z : Bool × Bool × Nat) (a1 : Int32) (a2 : Int32) : Prop := xEX k_X8_likely 1 (xCd d) F 0 [some (.ref 9), some (.int a1), some (.int a2), none] [] (xS I L z) b
def h_X8_likely_32 (d : Nat) (F : xQ) (b : Nat × Nat) (I : xI) (L : xL) (z : Bool × Bool × Nat) (a1 : Int32) (a2 : Int32) : Prop := xEX k_X8_likely 1 (xCd d) F 32 [some (.ref 9), some (.int a1), some (.int a2), none] [] (xS I L z) b
def h_X8_likely_57 (d : Nat) (F : xQ) (b : Nat × Nat) (I : xI) (L : xL) (z : Bool × Bool × Nat) (a1 : Int32) (a2 : Int32) (s0 : Int32) : Prop := xEX k_X8_likely 1 (xCd d) F 57 [some (.ref 9), some (.int a1), some (.int a2), none] [.int s0] (xS I L z) b
set_option maxRecDepth 100000 in
theorem g_X8_likely_0 {d : Nat} {F : xQ} {b : Nat × Nat} {I : xI} {L : xL} {z : Bool × Bool × Nat} {a1 : Int32} {a2 : Int32} (hd : 1 ≤ d) (h : (if p_X6_hasPlace I L a1 then (if p_X8_isEither I L a2 then xCd d 114 [.ref 37] (xS I L z) (fun r τ => xEX k_X8_likely 1 (xCd d) F 32 [some (.ref 9), some (.int a1), some (.int a2), none] (r.toList ++ []) τ b) else F (some (.int (-2 : Int32))) (xS (xrfu I (-2 : Int32)) L z)) else F (some (.int (-2 : Int32))) (xS (xrfu I (-2 : Int32)) L z))) : h_X8_likely_0 d F b I L z a1 a2 :=
  (xgo b_X8_likely_0 (xuse1 s_X6_hasPlace (Nat.le_trans (by decide) hd) (xgo b_X8_likely_8 (xiteB (fun c1316 h1316 => (xuse1 s_X8_isEither (Nat.le_trans (by decide) hd) (xgo b_X8_likely_15 (xiteB (fun c1317 h1317 => h1317) (fun c1317 h1317 => (xuse1 s_X8_refuse (Nat.le_trans (by decide) hd) (xgo b_X8_likely_24 h1317))) h1316)))) (fun c1316 h1316 => (xuse1 s_X8_refuse (Nat.le_trans (by decide) hd) (xgo b_X8_likely_24 h1316))) h))))
theorem c_X8_likely {d : Nat} {F : xQ} {I : xI} {L : xL} {z : Bool × Bool × Nat} {a1 : Int32} {a2 : Int32} (h : h_X8_likely_0 d F (0, 0) I L z a1 a2) : xCd (d + 1) 154 [.ref 9, .int a1, .int a2] (xS I L z) F :=
  xin_ (T := k_X8_likely) (rt := 1) (ls := [some (.ref 9), some (.int a1), some (.int a2), none]) rfl rfl rfl rfl h
set_option maxRecDepth 100000 in
theorem g_X8_likely_32 {d : Nat} {F : xQ} {b : Nat × Nat} {I : xI} {L : xL} {z : Bool × Bool × Nat} {a1 : Int32} {a2 : Int32} (hd : 1 ≤ d) (h : (if 0 < (I 37 1) then xCd d 128 [.ref 37, .int a1] (xS I L z) (fun r τ => xEX k_X8_likely 1 (xCd d) F 57 [some (.ref 9), some (.int a1), some (.int a2), none] (r.toList ++ []) τ b) else F (some (.int (-5 : Int32))) (xS (xrfu I (-5 : Int32)) L z))) : h_X8_likely_32 d F b I L z a1 a2 :=
  (xgo b_X8_likely_32 (xite (fun c1318 h1318 => h1318) (fun c1318 h1318 => (xuse1 s_X8_refuse (Nat.le_trans (by decide) hd) (xgo b_X8_likely_48 h1318))) h))
set_option maxRecDepth 100000 in
theorem g_X8_likely_57 {d : Nat} {F : xQ} {b : Nat × Nat} {I : xI} {L : xL} {z : Bool × Bool × Nat} {a1 : Int32} {a2 : Int32} {s0 : Int32} (hd : 1 ≤ d) (h : (if a2 = 0 then F (some (.int s0)) (xS I L z) else (if (I 37 1) = 0 then False else F (some (.int ((1000 * (f_X7_howManyStand I L a1 s0)) / (I 37 1)))) (xS I L z)))) : h_X8_likely_57 d F b I L z a1 a2 s0 :=
  (xgo b_X8_likely_57 (xite (fun c1319 h1319 => h1319) (fun c1319 h1319 => (xuse1 s_X7_howManyStand (Nat.le_trans (by decide) hd) (xgo b_X8_likely_78 h1319))) h))
def h_X8_known_0 (d : Nat) (F : xQ) (b : Nat × Nat) (I : xI) (L : xL) (z : Bool × Bool × Nat)  : Prop := xEX k_X8_known 1 (xCd d) F 0 [some (.ref 9)] [] (xS I L z) b
def h_X8_known_7 (d : Nat) (F : xQ) (b : Nat × Nat) (I : xI) (L : xL) (z : Bool × Bool × Nat)  : Prop := xEX k_X8_known 1 (xCd d) F 7 [some (.ref 9)] [] (xS I L z) b
def h_X8_known_14 (d : Nat) (F : xQ) (b : Nat × Nat) (I : xI) (L : xL) (z : Bool × Bool × Nat) (s0 : Int32) : Prop := xEX k_X8_known 1 (xCd d) F 14 [some (.ref 9)] [.int s0] (xS I L z) b
set_option maxRecDepth 100000 in
theorem g_X8_known_0 {d : Nat} {F : xQ} {b : Nat × Nat} {I : xI} {L : xL} {z : Bool × Bool × Nat}  (hd : 0 ≤ d) (h : xCd d 114 [.ref 37] (xS I L z) (fun r τ => xEX k_X8_known 1 (xCd d) F 7 [some (.ref 9)] (r.toList ++ []) τ b)) : h_X8_known_0 d F b I L z  :=
  (xgo b_X8_known_0 h)
theorem c_X8_known {d : Nat} {F : xQ} {I : xI} {L : xL} {z : Bool × Bool × Nat}  (h : h_X8_known_0 d F (0, 0) I L z ) : xCd (d + 1) 155 [.ref 9] (xS I L z) F :=
  xin_ (T := k_X8_known) (rt := 1) (ls := [some (.ref 9)]) rfl rfl rfl rfl h
set_option maxRecDepth 100000 in
theorem g_X8_known_7 {d : Nat} {F : xQ} {b : Nat × Nat} {I : xI} {L : xL} {z : Bool × Bool × Nat}  (hd : 0 ≤ d) (h : xCd d 130 [.ref 37] (xS I L z) (fun r τ => xEX k_X8_known 1 (xCd d) F 14 [some (.ref 9)] (r.toList ++ []) τ b)) : h_X8_known_7 d F b I L z  :=
  (xgo b_X8_known_7 h)
set_option maxRecDepth 100000 in
theorem g_X8_known_14 {d : Nat} {F : xQ} {b : Nat × Nat} {I : xI} {L : xL} {z : Bool × Bool × Nat} {s0 : Int32} (hd : 0 ≤ d) (h : F (some (.int s0)) (xS I L z)) : h_X8_known_14 d F b I L z s0 :=
  (xgo b_X8_known_14 h)
def h_X8_split_0 (d : Nat) (F : xQ) (b : Nat × Nat) (I : xI) (L : xL) (z : Bool × Bool × Nat) (a1 : Int32) (a2 : Int32) (a3 : Int32) : Prop := xEX k_X8_split 1 (xCd d) F 0 [some (.ref 9), some (.int a1), some (.int a2), some (.int a3)] [] (xS I L z) b
def h_X8_split_39 (d : Nat) (F : xQ) (b : Nat × Nat) (I : xI) (L : xL) (z : Bool × Bool × Nat) (a1 : Int32) (a2 : Int32) (a3 : Int32) : Prop := xEX k_X8_split 1 (xCd d) F 39 [some (.ref 9), some (.int a1), some (.int a2), some (.int a3)] [] (xS I L z) b
def h_X8_split_52 (d : Nat) (F : xQ) (b : Nat × Nat) (I : xI) (L : xL) (z : Bool × Bool × Nat) (a1 : Int32) (a2 : Int32) (a3 : Int32) (s0 : Int32) : Prop := xEX k_X8_split 1 (xCd d) F 52 [some (.ref 9), some (.int a1), some (.int a2), some (.int a3)] [.int s0] (xS I L z) b
def h_X8_split_64 (d : Nat) (F : xQ) (b : Nat × Nat) (I : xI) (L : xL) (z : Bool × Bool × Nat) (a1 : Int32) (a2 : Int32) (a3 : Int32) (s0 : Int32) : Prop := xEX k_X8_split 1 (xCd d) F 64 [some (.ref 9), some (.int a1), some (.int a2), some (.int a3)] [.int s0] (xS I L z) b
set_option maxRecDepth 100000 in
theorem g_X8_split_0 {d : Nat} {F : xQ} {b : Nat × Nat} {I : xI} {L : xL} {z : Bool × Bool × Nat} {a1 : Int32} {a2 : Int32} {a3 : Int32} (hd : 1 ≤ d) (h : (if p_X6_hasPlace I L a1 then (if p_X8_isSignKind I L a2 then (if p_X8_isEither I L a3 then xCd d 114 [.ref 37] (xS I L z) (fun r τ => xEX k_X8_split 1 (xCd d) F 39 [some (.ref 9), some (.int a1), some (.int a2), some (.int a3)] (r.toList ++ []) τ b) else F (some (.int (-2 : Int32))) (xS (xrfu I (-2 : Int32)) L z)) else F (some (.int (-2 : Int32))) (xS (xrfu I (-2 : Int32)) L z)) else F (some (.int (-2 : Int32))) (xS (xrfu I (-2 : Int32)) L z))) : h_X8_split_0 d F b I L z a1 a2 a3 :=
  (xgo b_X8_split_0 (xuse1 s_X6_hasPlace (Nat.le_trans (by decide) hd) (xgo b_X8_split_8 (xiteB (fun c1328 h1328 => (xuse1 s_X8_isSignKind (Nat.le_trans (by decide) hd) (xgo b_X8_split_15 (xiteB (fun c1329 h1329 => (xuse1 s_X8_isEither (Nat.le_trans (by decide) hd) (xgo b_X8_split_22 (xiteB (fun c1330 h1330 => h1330) (fun c1330 h1330 => (xuse1 s_X8_refuse (Nat.le_trans (by decide) hd) (xgo b_X8_split_31 h1330))) h1329)))) (fun c1329 h1329 => (xuse1 s_X8_refuse (Nat.le_trans (by decide) hd) (xgo b_X8_split_31 h1329))) h1328)))) (fun c1328 h1328 => (xuse1 s_X8_refuse (Nat.le_trans (by decide) hd) (xgo b_X8_split_31 h1328))) h))))
theorem c_X8_split {d : Nat} {F : xQ} {I : xI} {L : xL} {z : Bool × Bool × Nat} {a1 : Int32} {a2 : Int32} {a3 : Int32} (h : h_X8_split_0 d F (0, 0) I L z a1 a2 a3) : xCd (d + 1) 156 [.ref 9, .int a1, .int a2, .int a3] (xS I L z) F :=
  xin_ (T := k_X8_split) (rt := 1) (ls := [some (.ref 9), some (.int a1), some (.int a2), some (.int a3)]) rfl rfl rfl rfl h
set_option maxRecDepth 100000 in
theorem g_X8_split_39 {d : Nat} {F : xQ} {b : Nat × Nat} {I : xI} {L : xL} {z : Bool × Bool × Nat} {a1 : Int32} {a2 : Int32} {a3 : Int32} (hd : 1 ≤ d) (h : (if a3 = 0 then xCd d 18 [.ref 43, .int a1, .int a2] (xS I L z) (fun r τ => xEX k_X8_split 1 (xCd d) F 52 [some (.ref 9), some (.int a1), some (.int a2), some (.int a3)] (r.toList ++ []) τ b) else xCd d 19 [.ref 43, .int a1, .int a2] (xS I L z) (fun r τ => xEX k_X8_split 1 (xCd d) F 64 [some (.ref 9), some (.int a1), some (.int a2), some (.int a3)] (r.toList ++ []) τ b))) : h_X8_split_39 d F b I L z a1 a2 a3 :=
  (xgo b_X8_split_39 h)
set_option maxRecDepth 100000 in
theorem g_X8_split_52 {d : Nat} {F : xQ} {b : Nat × Nat} {I : xI} {L : xL} {z : Bool × Bool × Nat} {a1 : Int32} {a2 : Int32} {a3 : Int32} {s0 : Int32} (hd : 1 ≤ d) (h : h_X8_split_64 d F b I L z a1 a2 a3 s0) : h_X8_split_52 d F b I L z a1 a2 a3 s0 :=
  (xgo b_X8_split_52 h)
set_option maxRecDepth 100000 in
theorem g_X8_split_64 {d : Nat} {F : xQ} {b : Nat × Nat} {I : xI} {L : xL} {z : Bool × Bool × Nat} {a1 : Int32} {a2 : Int32} {a3 : Int32} {s0 : Int32} (hd : 1 ≤ d) (h : F (some (.int s0)) (xS I L z)) : h_X8_split_64 d F b I L z a1 a2 a3 s0 :=
  (xgo b_X8_split_64 h)
def h_X8_next_0 (d : Nat) (F : xQ) (b : Nat × Nat) (I : xI) (L : xL) (z : Bool × Bool × Nat) (a1 : Int32) : Prop := xEX k_X8_next 1 (xCd d) F 0 [some (.ref 9), some (.int a1)] [] (xS I L z) b
def h_X8_next_25 (d : Nat) (F : xQ) (b : Nat × Nat) (I : xI) (L : xL) (z : Bool × Bool × Nat) (a1 : Int32) : Prop := xEX k_X8_next 1 (xCd d) F 25 [some (.ref 9), some (.int a1)] [] (xS I L z) b
def h_X8_next_50 (d : Nat) (F : xQ) (b : Nat × Nat) (I : xI) (L : xL) (z : Bool × Bool × Nat) (a1 : Int32) (s0 : Int32) : Prop := xEX k_X8_next 1 (xCd d) F 50 [some (.ref 9), some (.int a1)] [.int s0] (xS I L z) b
set_option maxRecDepth 100000 in
theorem g_X8_next_0 {d : Nat} {F : xQ} {b : Nat × Nat} {I : xI} {L : xL} {z : Bool × Bool × Nat} {a1 : Int32} (hd : 1 ≤ d) (h : (if a1 < 1 then F (some (.int (-2 : Int32))) (xS (xrfu I (-2 : Int32)) L z) else (if 15 < a1 then F (some (.int (-2 : Int32))) (xS (xrfu I (-2 : Int32)) L z) else xCd d 114 [.ref 37] (xS I L z) (fun r τ => xEX k_X8_next 1 (xCd d) F 25 [some (.ref 9), some (.int a1)] (r.toList ++ []) τ b)))) : h_X8_next_0 d F b I L z a1 :=
  (xgo b_X8_next_0 (xite (fun c1337 h1337 => (xuse1 s_X8_refuse (Nat.le_trans (by decide) hd) (xgo b_X8_next_17 h1337))) (fun c1337 h1337 => (xite (fun c1338 h1338 => (xuse1 s_X8_refuse (Nat.le_trans (by decide) hd) (xgo b_X8_next_17 h1338))) (fun c1338 h1338 => h1338) h1337)) h))
theorem c_X8_next {d : Nat} {F : xQ} {I : xI} {L : xL} {z : Bool × Bool × Nat} {a1 : Int32} (h : h_X8_next_0 d F (0, 0) I L z a1) : xCd (d + 1) 157 [.ref 9, .int a1] (xS I L z) F :=
  xin_ (T := k_X8_next) (rt := 1) (ls := [some (.ref 9), some (.int a1)]) rfl rfl rfl rfl h
set_option maxRecDepth 100000 in
theorem g_X8_next_25 {d : Nat} {F : xQ} {b : Nat × Nat} {I : xI} {L : xL} {z : Bool × Bool × Nat} {a1 : Int32} (hd : 1 ≤ d) (h : (if (I 37 1) = 0 then F (some (.int (-5 : Int32))) (xS (xrfu I (-5 : Int32)) L z) else xCd d 20 [.ref 43, .int a1] (xS I L z) (fun r τ => xEX k_X8_next 1 (xCd d) F 50 [some (.ref 9), some (.int a1)] (r.toList ++ []) τ b))) : h_X8_next_25 d F b I L z a1 :=
  (xgo b_X8_next_25 (xite (fun c1339 h1339 => (xuse1 s_X8_refuse (Nat.le_trans (by decide) hd) (xgo b_X8_next_41 h1339))) (fun c1339 h1339 => h1339) h))
set_option maxRecDepth 100000 in
theorem g_X8_next_50 {d : Nat} {F : xQ} {b : Nat × Nat} {I : xI} {L : xL} {z : Bool × Bool × Nat} {a1 : Int32} {s0 : Int32} (hd : 1 ≤ d) (h : F (some (.int s0)) (xS I L z)) : h_X8_next_50 d F b I L z a1 s0 :=
  (xgo b_X8_next_50 h)
def h_X8_fewest_0 (d : Nat) (F : xQ) (b : Nat × Nat) (I : xI) (L : xL) (z : Bool × Bool × Nat) (a1 : Int32) : Prop := xEX k_X8_fewest 1 (xCd d) F 0 [some (.ref 9), some (.int a1)] [] (xS I L z) b
def h_X8_fewest_25 (d : Nat) (F : xQ) (b : Nat × Nat) (I : xI) (L : xL) (z : Bool × Bool × Nat) (a1 : Int32) : Prop := xEX k_X8_fewest 1 (xCd d) F 25 [some (.ref 9), some (.int a1)] [] (xS I L z) b
def h_X8_fewest_62 (d : Nat) (F : xQ) (b : Nat × Nat) (I : xI) (L : xL) (z : Bool × Bool × Nat) (a1 : Int32) (s0 : Int32) : Prop := xEX k_X8_fewest 1 (xCd d) F 62 [some (.ref 9), some (.int a1)] [.int s0] (xS I L z) b
set_option maxRecDepth 100000 in
theorem g_X8_fewest_0 {d : Nat} {F : xQ} {b : Nat × Nat} {I : xI} {L : xL} {z : Bool × Bool × Nat} {a1 : Int32} (hd : 1 ≤ d) (h : (if a1 < 1 then F (some (.int (-2 : Int32))) (xS (xrfu I (-2 : Int32)) L z) else (if 15 < a1 then F (some (.int (-2 : Int32))) (xS (xrfu I (-2 : Int32)) L z) else xCd d 114 [.ref 37] (xS I L z) (fun r τ => xEX k_X8_fewest 1 (xCd d) F 25 [some (.ref 9), some (.int a1)] (r.toList ++ []) τ b)))) : h_X8_fewest_0 d F b I L z a1 :=
  (xgo b_X8_fewest_0 (xite (fun c1346 h1346 => (xuse1 s_X8_refuse (Nat.le_trans (by decide) hd) (xgo b_X8_fewest_17 h1346))) (fun c1346 h1346 => (xite (fun c1347 h1347 => (xuse1 s_X8_refuse (Nat.le_trans (by decide) hd) (xgo b_X8_fewest_17 h1347))) (fun c1347 h1347 => h1347) h1346)) h))
theorem c_X8_fewest {d : Nat} {F : xQ} {I : xI} {L : xL} {z : Bool × Bool × Nat} {a1 : Int32} (h : h_X8_fewest_0 d F (0, 0) I L z a1) : xCd (d + 1) 158 [.ref 9, .int a1] (xS I L z) F :=
  xin_ (T := k_X8_fewest) (rt := 1) (ls := [some (.ref 9), some (.int a1)]) rfl rfl rfl rfl h
set_option maxRecDepth 100000 in
theorem g_X8_fewest_25 {d : Nat} {F : xQ} {b : Nat × Nat} {I : xI} {L : xL} {z : Bool × Bool × Nat} {a1 : Int32} (hd : 1 ≤ d) (h : (if (I 37 1) = 0 then F (some (.int (-5 : Int32))) (xS (xrfu I (-5 : Int32)) L z) else (if 24 < (I 37 1) then F (some (.int (-5 : Int32))) (xS (xrfu I (-5 : Int32)) L z) else xCd d 27 [.ref 43, .int a1] (xS I L z) (fun r τ => xEX k_X8_fewest 1 (xCd d) F 62 [some (.ref 9), some (.int a1)] (r.toList ++ []) τ b)))) : h_X8_fewest_25 d F b I L z a1 :=
  (xgo b_X8_fewest_25 (xite (fun c1348 h1348 => (xuse1 s_X8_refuse (Nat.le_trans (by decide) hd) (xgo b_X8_fewest_53 h1348))) (fun c1348 h1348 => (xite (fun c1349 h1349 => (xuse1 s_X8_refuse (Nat.le_trans (by decide) hd) (xgo b_X8_fewest_53 h1349))) (fun c1349 h1349 => h1349) h1348)) h))
set_option maxRecDepth 100000 in
theorem g_X8_fewest_62 {d : Nat} {F : xQ} {b : Nat × Nat} {I : xI} {L : xL} {z : Bool × Bool × Nat} {a1 : Int32} {s0 : Int32} (hd : 1 ≤ d) (h : F (some (.int s0)) (xS I L z)) : h_X8_fewest_62 d F b I L z a1 s0 :=
  (xgo b_X8_fewest_62 h)
def h_X8_apart_0 (d : Nat) (F : xQ) (b : Nat × Nat) (I : xI) (L : xL) (z : Bool × Bool × Nat)  : Prop := xEX k_X8_apart 1 (xCd d) F 0 [some (.ref 9)] [] (xS I L z) b
def h_X8_apart_7 (d : Nat) (F : xQ) (b : Nat × Nat) (I : xI) (L : xL) (z : Bool × Bool × Nat)  : Prop := xEX k_X8_apart 1 (xCd d) F 7 [some (.ref 9)] [] (xS I L z) b
def h_X8_apart_31 (d : Nat) (F : xQ) (b : Nat × Nat) (I : xI) (L : xL) (z : Bool × Bool × Nat) (s0 : Int32) : Prop := xEX k_X8_apart 1 (xCd d) F 31 [some (.ref 9)] [.int s0] (xS I L z) b
set_option maxRecDepth 100000 in
theorem g_X8_apart_0 {d : Nat} {F : xQ} {b : Nat × Nat} {I : xI} {L : xL} {z : Bool × Bool × Nat}  (hd : 1 ≤ d) (h : xCd d 114 [.ref 37] (xS I L z) (fun r τ => xEX k_X8_apart 1 (xCd d) F 7 [some (.ref 9)] (r.toList ++ []) τ b)) : h_X8_apart_0 d F b I L z  :=
  (xgo b_X8_apart_0 h)
theorem c_X8_apart {d : Nat} {F : xQ} {I : xI} {L : xL} {z : Bool × Bool × Nat}  (h : h_X8_apart_0 d F (0, 0) I L z ) : xCd (d + 1) 159 [.ref 9] (xS I L z) F :=
  xin_ (T := k_X8_apart) (rt := 1) (ls := [some (.ref 9)]) rfl rfl rfl rfl h
set_option maxRecDepth 100000 in
theorem g_X8_apart_7 {d : Nat} {F : xQ} {b : Nat × Nat} {I : xI} {L : xL} {z : Bool × Bool × Nat}  (hd : 1 ≤ d) (h : (if (I 37 1) = 0 then F (some (.int (-5 : Int32))) (xS (xrfu I (-5 : Int32)) L z) else xCd d 21 [.ref 43] (xS I L z) (fun r τ => xEX k_X8_apart 1 (xCd d) F 31 [some (.ref 9)] (r.toList ++ []) τ b))) : h_X8_apart_7 d F b I L z  :=
  (xgo b_X8_apart_7 (xite (fun c1351 h1351 => (xuse1 s_X8_refuse (Nat.le_trans (by decide) hd) (xgo b_X8_apart_23 h1351))) (fun c1351 h1351 => h1351) h))
set_option maxRecDepth 100000 in
theorem g_X8_apart_31 {d : Nat} {F : xQ} {b : Nat × Nat} {I : xI} {L : xL} {z : Bool × Bool × Nat} {s0 : Int32} (hd : 1 ≤ d) (h : F (some (.int s0)) (xS I L z)) : h_X8_apart_31 d F b I L z s0 :=
  (xgo b_X8_apart_31 h)
def h_X8_marks_0 (d : Nat) (F : xQ) (b : Nat × Nat) (I : xI) (L : xL) (z : Bool × Bool × Nat) (a1 : Int32) : Prop := xEX k_X8_marks 1 (xCd d) F 0 [some (.ref 9), some (.int a1)] [] (xS I L z) b
def h_X8_marks_24 (d : Nat) (F : xQ) (b : Nat × Nat) (I : xI) (L : xL) (z : Bool × Bool × Nat) (a1 : Int32) : Prop := xEX k_X8_marks 1 (xCd d) F 24 [some (.ref 9), some (.int a1)] [] (xS I L z) b
def h_X8_marks_32 (d : Nat) (F : xQ) (b : Nat × Nat) (I : xI) (L : xL) (z : Bool × Bool × Nat) (a1 : Int32) (s0 : Int32) : Prop := xEX k_X8_marks 1 (xCd d) F 32 [some (.ref 9), some (.int a1)] [.int s0] (xS I L z) b
set_option maxRecDepth 100000 in
theorem g_X8_marks_0 {d : Nat} {F : xQ} {b : Nat × Nat} {I : xI} {L : xL} {z : Bool × Bool × Nat} {a1 : Int32} (hd : 1 ≤ d) (h : (if a1 < 0 then F (some (.int (-2 : Int32))) (xS (xrfu I (-2 : Int32)) L z) else (if 15 < a1 then F (some (.int (-2 : Int32))) (xS (xrfu I (-2 : Int32)) L z) else xCd d 114 [.ref 37] (xS I L z) (fun r τ => xEX k_X8_marks 1 (xCd d) F 24 [some (.ref 9), some (.int a1)] (r.toList ++ []) τ b)))) : h_X8_marks_0 d F b I L z a1 :=
  (xgo b_X8_marks_0 (xite (fun c1356 h1356 => (xuse1 s_X8_refuse (Nat.le_trans (by decide) hd) (xgo b_X8_marks_16 h1356))) (fun c1356 h1356 => (xite (fun c1357 h1357 => (xuse1 s_X8_refuse (Nat.le_trans (by decide) hd) (xgo b_X8_marks_16 h1357))) (fun c1357 h1357 => h1357) h1356)) h))
theorem c_X8_marks {d : Nat} {F : xQ} {I : xI} {L : xL} {z : Bool × Bool × Nat} {a1 : Int32} (h : h_X8_marks_0 d F (0, 0) I L z a1) : xCd (d + 1) 160 [.ref 9, .int a1] (xS I L z) F :=
  xin_ (T := k_X8_marks) (rt := 1) (ls := [some (.ref 9), some (.int a1)]) rfl rfl rfl rfl h
set_option maxRecDepth 100000 in
theorem g_X8_marks_24 {d : Nat} {F : xQ} {b : Nat × Nat} {I : xI} {L : xL} {z : Bool × Bool × Nat} {a1 : Int32} (hd : 1 ≤ d) (h : xCd d 23 [.ref 43, .int a1] (xS I L z) (fun r τ => xEX k_X8_marks 1 (xCd d) F 32 [some (.ref 9), some (.int a1)] (r.toList ++ []) τ b)) : h_X8_marks_24 d F b I L z a1 :=
  (xgo b_X8_marks_24 h)
set_option maxRecDepth 100000 in
theorem g_X8_marks_32 {d : Nat} {F : xQ} {b : Nat × Nat} {I : xI} {L : xL} {z : Bool × Bool × Nat} {a1 : Int32} {s0 : Int32} (hd : 1 ≤ d) (h : F (some (.int s0)) (xS I L z)) : h_X8_marks_32 d F b I L z a1 s0 :=
  (xgo b_X8_marks_32 h)
def h_X8_judge_0 (d : Nat) (F : xQ) (b : Nat × Nat) (I : xI) (L : xL) (z : Bool × Bool × Nat) (a1 : Int32) : Prop := xEX k_X8_judge 1 (xCd d) F 0 [some (.ref 9), some (.int a1), none] [] (xS I L z) b
def h_X8_judge_5 (d : Nat) (F : xQ) (b : Nat × Nat) (I : xI) (L : xL) (z : Bool × Bool × Nat) (a1 : Int32) (s0 : Int32) : Prop := xEX k_X8_judge 1 (xCd d) F 5 [some (.ref 9), some (.int a1), none] [.int s0] (xS I L z) b
def h_X8_judge_27 (d : Nat) (F : xQ) (b : Nat × Nat) (I : xI) (L : xL) (z : Bool × Bool × Nat) (a1 : Int32) (a2 : Int32) (s0 : Int32) : Prop := xEX k_X8_judge 1 (xCd d) F 27 [some (.ref 9), some (.int a1), some (.int a2)] [.int s0] (xS I L z) b
set_option maxRecDepth 100000 in
theorem g_X8_judge_0 {d : Nat} {F : xQ} {b : Nat × Nat} {I : xI} {L : xL} {z : Bool × Bool × Nat} {a1 : Int32} (hd : 1 ≤ d) (h : xCd d 178 [.ref 9, .int a1] (xS I L z) (fun r τ => xEX k_X8_judge 1 (xCd d) F 5 [some (.ref 9), some (.int a1), none] (r.toList ++ []) τ b)) : h_X8_judge_0 d F b I L z a1 :=
  (xgo b_X8_judge_0 h)
theorem c_X8_judge {d : Nat} {F : xQ} {I : xI} {L : xL} {z : Bool × Bool × Nat} {a1 : Int32} (h : h_X8_judge_0 d F (0, 0) I L z a1) : xCd (d + 1) 161 [.ref 9, .int a1] (xS I L z) F :=
  xin_ (T := k_X8_judge) (rt := 1) (ls := [some (.ref 9), some (.int a1), none]) rfl rfl rfl rfl h
set_option maxRecDepth 100000 in
theorem g_X8_judge_5 {d : Nat} {F : xQ} {b : Nat × Nat} {I : xI} {L : xL} {z : Bool × Bool × Nat} {a1 : Int32} {s0 : Int32} (hd : 1 ≤ d) (h : (if s0 = 0 then xCd d 1 [.ref 50, .ref 64] (xS I L z) (fun r τ => xEX k_X8_judge 1 (xCd d) F 27 [some (.ref 9), some (.int a1), some (.int s0)] (r.toList ++ []) τ b) else F (some (.int s0)) (xS (xrfu I s0) L z))) : h_X8_judge_5 d F b I L z a1 s0 :=
  (xgo b_X8_judge_5 (xite (fun c1359 h1359 => h1359) (fun c1359 h1359 => (xuse1 s_X8_refuse (Nat.le_trans (by decide) hd) (xgo b_X8_judge_15 h1359))) h))
set_option maxRecDepth 100000 in
theorem g_X8_judge_27 {d : Nat} {F : xQ} {b : Nat × Nat} {I : xI} {L : xL} {z : Bool × Bool × Nat} {a1 : Int32} {a2 : Int32} {s0 : Int32} (hd : 1 ≤ d) (h : F (some (.int s0)) (xS I L z)) : h_X8_judge_27 d F b I L z a1 a2 s0 :=
  (xgo b_X8_judge_27 h)
def h_X8_handing_0 (d : Nat) (F : xQ) (b : Nat × Nat) (I : xI) (L : xL) (z : Bool × Bool × Nat) (a1 : Int32) (a2 : Int32) : Prop := xEX k_X8_handing 1 (xCd d) F 0 [some (.ref 9), some (.int a1), some (.int a2), none] [] (xS I L z) b
def h_X8_handing_21 (d : Nat) (F : xQ) (b : Nat × Nat) (I : xI) (L : xL) (z : Bool × Bool × Nat) (a1 : Int32) (a2 : Int32) (s0 : Int32) : Prop := xEX k_X8_handing 1 (xCd d) F 21 [some (.ref 9), some (.int a1), some (.int a2), none] [.int s0] (xS I L z) b
def h_X8_handing_43 (d : Nat) (F : xQ) (b : Nat × Nat) (I : xI) (L : xL) (z : Bool × Bool × Nat) (a1 : Int32) (a2 : Int32) (a3 : Int32) (s0 : Int32) : Prop := xEX k_X8_handing 1 (xCd d) F 43 [some (.ref 9), some (.int a1), some (.int a2), some (.int a3)] [.int s0] (xS I L z) b
def h_X8_handing_70 (d : Nat) (F : xQ) (b : Nat × Nat) (I : xI) (L : xL) (z : Bool × Bool × Nat) (a1 : Int32) (a2 : Int32) (a3 : Int32) (s0 : Int32) : Prop := xEX k_X8_handing 1 (xCd d) F 70 [some (.ref 9), some (.int a1), some (.int a2), some (.int a3)] [.int s0] (xS I L z) b
def h_X8_handing_78 (d : Nat) (F : xQ) (b : Nat × Nat) (I : xI) (L : xL) (z : Bool × Bool × Nat) (a1 : Int32) (a2 : Int32) (a3 : Int32) : Prop := xEX k_X8_handing 1 (xCd d) F 78 [some (.ref 9), some (.int a1), some (.int a2), some (.int a3)] [] (xS I L z) b
def h_X8_handing_93 (d : Nat) (F : xQ) (b : Nat × Nat) (I : xI) (L : xL) (z : Bool × Bool × Nat) (a1 : Int32) (a2 : Int32) (a3 : Int32) (s0 : Int32) : Prop := xEX k_X8_handing 1 (xCd d) F 93 [some (.ref 9), some (.int a1), some (.int a2), some (.int a3)] [.int s0] (xS I L z) b
def h_X8_handing_107 (d : Nat) (F : xQ) (b : Nat × Nat) (I : xI) (L : xL) (z : Bool × Bool × Nat) (a1 : Int32) (a2 : Int32) (a3 : Int32) (s0 : Int32) : Prop := xEX k_X8_handing 1 (xCd d) F 107 [some (.ref 9), some (.int a1), some (.int a2), some (.int a3)] [.int s0] (xS I L z) b
set_option maxRecDepth 100000 in
theorem g_X8_handing_0 {d : Nat} {F : xQ} {b : Nat × Nat} {I : xI} {L : xL} {z : Bool × Bool × Nat} {a1 : Int32} {a2 : Int32} (hd : 1 ≤ d) (h : (if a2 < 0 then F (some (.int (-2 : Int32))) (xS (xrfu I (-2 : Int32)) L z) else (if 2 < a2 then F (some (.int (-2 : Int32))) (xS (xrfu I (-2 : Int32)) L z) else xCd d 178 [.ref 9, .int a1] (xS I L z) (fun r τ => xEX k_X8_handing 1 (xCd d) F 21 [some (.ref 9), some (.int a1), some (.int a2), none] (r.toList ++ []) τ b)))) : h_X8_handing_0 d F b I L z a1 a2 :=
  (xgo b_X8_handing_0 (xite (fun c1376 h1376 => (xuse1 s_X8_refuse (Nat.le_trans (by decide) hd) (xgo b_X8_handing_15 h1376))) (fun c1376 h1376 => (xite (fun c1377 h1377 => (xuse1 s_X8_refuse (Nat.le_trans (by decide) hd) (xgo b_X8_handing_15 h1377))) (fun c1377 h1377 => h1377) h1376)) h))
theorem c_X8_handing {d : Nat} {F : xQ} {I : xI} {L : xL} {z : Bool × Bool × Nat} {a1 : Int32} {a2 : Int32} (h : h_X8_handing_0 d F (0, 0) I L z a1 a2) : xCd (d + 1) 162 [.ref 9, .int a1, .int a2] (xS I L z) F :=
  xin_ (T := k_X8_handing) (rt := 1) (ls := [some (.ref 9), some (.int a1), some (.int a2), none]) rfl rfl rfl rfl h
set_option maxRecDepth 100000 in
theorem g_X8_handing_21 {d : Nat} {F : xQ} {b : Nat × Nat} {I : xI} {L : xL} {z : Bool × Bool × Nat} {a1 : Int32} {a2 : Int32} {s0 : Int32} (hd : 1 ≤ d) (h : (if s0 = 0 then xCd d 1 [.ref 50, .ref 64] (xS I L z) (fun r τ => xEX k_X8_handing 1 (xCd d) F 43 [some (.ref 9), some (.int a1), some (.int a2), some (.int s0)] (r.toList ++ []) τ b) else F (some (.int s0)) (xS (xrfu I s0) L z))) : h_X8_handing_21 d F b I L z a1 a2 s0 :=
  (xgo b_X8_handing_21 (xite (fun c1378 h1378 => h1378) (fun c1378 h1378 => (xuse1 s_X8_refuse (Nat.le_trans (by decide) hd) (xgo b_X8_handing_31 h1378))) h))
set_option maxRecDepth 100000 in
theorem g_X8_handing_43 {d : Nat} {F : xQ} {b : Nat × Nat} {I : xI} {L : xL} {z : Bool × Bool × Nat} {a1 : Int32} {a2 : Int32} {a3 : Int32} {s0 : Int32} (hd : 1 ≤ d) (h : (if s0 = (-1 : Int32) then (if a2 = 1 then xCd d 6 [.ref 50, .ref 64] (xS I L z) (fun r τ => xEX k_X8_handing 1 (xCd d) F 70 [some (.ref 9), some (.int a1), some (.int a2), some (.int a3)] (r.toList ++ []) τ b) else xCd d 114 [.ref 37] (xS I L z) (fun r τ => xEX k_X8_handing 1 (xCd d) F 78 [some (.ref 9), some (.int a1), some (.int a2), some (.int a3)] (r.toList ++ []) τ b)) else F (some (.int (-5 : Int32))) (xS (xrfu I (-5 : Int32)) L z))) : h_X8_handing_43 d F b I L z a1 a2 a3 s0 :=
  (xgo b_X8_handing_43 (xite (fun c1379 h1379 => h1379) (fun c1379 h1379 => (xuse1 s_X8_refuse (Nat.le_trans (by decide) hd) (xgo b_X8_handing_53 h1379))) h))
set_option maxRecDepth 100000 in
theorem g_X8_handing_70 {d : Nat} {F : xQ} {b : Nat × Nat} {I : xI} {L : xL} {z : Bool × Bool × Nat} {a1 : Int32} {a2 : Int32} {a3 : Int32} {s0 : Int32} (hd : 1 ≤ d) (h : F (some (.int s0)) (xS I L z)) : h_X8_handing_70 d F b I L z a1 a2 a3 s0 :=
  (xgo b_X8_handing_70 h)
set_option maxRecDepth 100000 in
theorem g_X8_handing_78 {d : Nat} {F : xQ} {b : Nat × Nat} {I : xI} {L : xL} {z : Bool × Bool × Nat} {a1 : Int32} {a2 : Int32} {a3 : Int32} (hd : 1 ≤ d) (h : (if a2 = 0 then xCd d 4 [.ref 50, .ref 64] (xS I L z) (fun r τ => xEX k_X8_handing 1 (xCd d) F 93 [some (.ref 9), some (.int a1), some (.int a2), some (.int a3)] (r.toList ++ []) τ b) else xCd d 5 [.ref 50, .ref 64] (xS I L z) (fun r τ => xEX k_X8_handing 1 (xCd d) F 107 [some (.ref 9), some (.int a1), some (.int a2), some (.int a3)] (r.toList ++ []) τ b))) : h_X8_handing_78 d F b I L z a1 a2 a3 :=
  (xgo b_X8_handing_78 h)
set_option maxRecDepth 100000 in
theorem g_X8_handing_93 {d : Nat} {F : xQ} {b : Nat × Nat} {I : xI} {L : xL} {z : Bool × Bool × Nat} {a1 : Int32} {a2 : Int32} {a3 : Int32} {s0 : Int32} (hd : 1 ≤ d) (h : h_X8_handing_107 d F b I L z a1 a2 a3 s0) : h_X8_handing_93 d F b I L z a1 a2 a3 s0 :=
  (xgo b_X8_handing_93 h)
set_option maxRecDepth 100000 in
theorem g_X8_handing_107 {d : Nat} {F : xQ} {b : Nat × Nat} {I : xI} {L : xL} {z : Bool × Bool × Nat} {a1 : Int32} {a2 : Int32} {a3 : Int32} {s0 : Int32} (hd : 1 ≤ d) (h : F (some (.int s0)) (xS I L z)) : h_X8_handing_107 d F b I L z a1 a2 a3 s0 :=
  (xgo b_X8_handing_107 h)
def h_X8_best_0 (d : Nat) (F : xQ) (b : Nat × Nat) (I : xI) (L : xL) (z : Bool × Bool × Nat) (a1 : Int32) : Prop := xEX k_X8_best 1 (xCd d) F 0 [some (.ref 9), some (.int a1)] [] (xS I L z) b
def h_X8_best_30 (d : Nat) (F : xQ) (b : Nat × Nat) (I : xI) (L : xL) (z : Bool × Bool × Nat) (a1 : Int32) : Prop := xEX k_X8_best 1 (xCd d) F 30 [some (.ref 9), some (.int a1)] [] (xS I L z) b
def h_X8_best_37 (d : Nat) (F : xQ) (b : Nat × Nat) (I : xI) (L : xL) (z : Bool × Bool × Nat) (a1 : Int32) : Prop := xEX k_X8_best 1 (xCd d) F 37 [some (.ref 9), some (.int a1)] [] (xS I L z) b
set_option maxRecDepth 100000 in
theorem g_X8_best_0 {d : Nat} {F : xQ} {b : Nat × Nat} {I : xI} {L : xL} {z : Bool × Bool × Nat} {a1 : Int32} (hd : 1 ≤ d) (h : (if a1 = (-1 : Int32) then xCd d 114 [.ref 37] (xS I L z) (fun r τ => xEX k_X8_best 1 (xCd d) F 30 [some (.ref 9), some (.int a1)] (r.toList ++ []) τ b) else (if p_X6_hasPlace I L a1 then xCd d 114 [.ref 37] (xS I L z) (fun r τ => xEX k_X8_best 1 (xCd d) F 30 [some (.ref 9), some (.int a1)] (r.toList ++ []) τ b) else F (some (.int (-2 : Int32))) (xS (xrfu I (-2 : Int32)) L z)))) : h_X8_best_0 d F b I L z a1 :=
  (xgo b_X8_best_0 (xite (fun c1386 h1386 => h1386) (fun c1386 h1386 => (xuse1 s_X6_hasPlace (Nat.le_trans (by decide) hd) (xgo b_X8_best_13 (xiteB (fun c1387 h1387 => h1387) (fun c1387 h1387 => (xuse1 s_X8_refuse (Nat.le_trans (by decide) hd) (xgo b_X8_best_22 h1387))) h1386)))) h))
theorem c_X8_best {d : Nat} {F : xQ} {I : xI} {L : xL} {z : Bool × Bool × Nat} {a1 : Int32} (h : h_X8_best_0 d F (0, 0) I L z a1) : xCd (d + 1) 163 [.ref 9, .int a1] (xS I L z) F :=
  xin_ (T := k_X8_best) (rt := 1) (ls := [some (.ref 9), some (.int a1)]) rfl rfl rfl rfl h
set_option maxRecDepth 100000 in
theorem g_X8_best_30 {d : Nat} {F : xQ} {b : Nat × Nat} {I : xI} {L : xL} {z : Bool × Bool × Nat} {a1 : Int32} (hd : 1 ≤ d) (h : xCd d 10 [.ref 50] (xS I L z) (fun r τ => xEX k_X8_best 1 (xCd d) F 37 [some (.ref 9), some (.int a1)] (r.toList ++ []) τ b)) : h_X8_best_30 d F b I L z a1 :=
  (xgo b_X8_best_30 h)
set_option maxRecDepth 100000 in
theorem g_X8_best_37 {d : Nat} {F : xQ} {b : Nat × Nat} {I : xI} {L : xL} {z : Bool × Bool × Nat} {a1 : Int32} (hd : 1 ≤ d) (h : (if a1 = (-1 : Int32) then F (some (.int (f_X0_leastMean I L))) (xS I L z) else F (some (.int (f_X0_bestPlaceOf I L a1))) (xS I L z))) : h_X8_best_37 d F b I L z a1 :=
  (xgo b_X8_best_37 (xite (fun c1388 h1388 => (xuse1 s_X0_leastMean (Nat.le_trans (by decide) hd) (xgo b_X8_best_49 (xgo b_X8_best_60 h1388)))) (fun c1388 h1388 => (xuse1 s_X0_bestPlaceOf (Nat.le_trans (by decide) hd) (xgo b_X8_best_60 h1388))) h))
def h_X8_mind_0 (d : Nat) (F : xQ) (b : Nat × Nat) (I : xI) (L : xL) (z : Bool × Bool × Nat) (a1 : Int32) (a2 : Int32) : Prop := xEX k_X8_mind 1 (xCd d) F 0 [some (.ref 9), some (.int a1), some (.int a2)] [] (xS I L z) b
def h_X8_mind_36 (d : Nat) (F : xQ) (b : Nat × Nat) (I : xI) (L : xL) (z : Bool × Bool × Nat) (a1 : Int32) (a2 : Int32) : Prop := xEX k_X8_mind 1 (xCd d) F 36 [some (.ref 9), some (.int a1), some (.int a2)] [] (xS I L z) b
set_option maxRecDepth 100000 in
theorem g_X8_mind_0 {d : Nat} {F : xQ} {b : Nat × Nat} {I : xI} {L : xL} {z : Bool × Bool × Nat} {a1 : Int32} {a2 : Int32} (hd : 2 ≤ d) (h : (if p_X6_hasPlace I L a1 then (if p_X6_hasPlace I L a2 then xCd d 114 [.ref 37] (xS I L z) (fun r τ => xEX k_X8_mind 1 (xCd d) F 36 [some (.ref 9), some (.int a1), some (.int a2)] (r.toList ++ []) τ b) else F (some (.int (-2 : Int32))) (xS (xrfu I (-2 : Int32)) L z)) else F (some (.int (-2 : Int32))) (xS (xrfu I (-2 : Int32)) L z))) : h_X8_mind_0 d F b I L z a1 a2 :=
  (xgo b_X8_mind_0 (xuse1 s_X6_hasPlace (Nat.le_trans (by decide) hd) (xgo b_X8_mind_8 (xiteB (fun c1391 h1391 => (xuse1 s_X6_hasPlace (Nat.le_trans (by decide) hd) (xgo b_X8_mind_19 (xiteB (fun c1392 h1392 => h1392) (fun c1392 h1392 => (xuse1 s_X8_refuse (Nat.le_trans (by decide) hd) (xgo b_X8_mind_28 h1392))) h1391)))) (fun c1391 h1391 => (xuse1 s_X8_refuse (Nat.le_trans (by decide) hd) (xgo b_X8_mind_28 h1391))) h))))
theorem c_X8_mind {d : Nat} {F : xQ} {I : xI} {L : xL} {z : Bool × Bool × Nat} {a1 : Int32} {a2 : Int32} (h : h_X8_mind_0 d F (0, 0) I L z a1 a2) : xCd (d + 1) 164 [.ref 9, .int a1, .int a2] (xS I L z) F :=
  xin_ (T := k_X8_mind) (rt := 1) (ls := [some (.ref 9), some (.int a1), some (.int a2)]) rfl rfl rfl rfl h
set_option maxRecDepth 100000 in
theorem g_X8_mind_36 {d : Nat} {F : xQ} {b : Nat × Nat} {I : xI} {L : xL} {z : Bool × Bool × Nat} {a1 : Int32} {a2 : Int32} (hd : 2 ≤ d) (h : F (some (.int (f_X0_wrongWorlds I L a1 a2))) (xS I L z)) : h_X8_mind_36 d F b I L z a1 a2 :=
  (xgo b_X8_mind_36 (xuse1 s_X0_wrongWorlds (Nat.le_trans (by decide) hd) (xgo b_X8_mind_45 h)))
def h_X8_tells_0 (d : Nat) (F : xQ) (b : Nat × Nat) (I : xI) (L : xL) (z : Bool × Bool × Nat) (a1 : Int32) : Prop := xEX k_X8_tells 1 (xCd d) F 0 [some (.ref 9), some (.int a1)] [] (xS I L z) b
def h_X8_tells_25 (d : Nat) (F : xQ) (b : Nat × Nat) (I : xI) (L : xL) (z : Bool × Bool × Nat) (a1 : Int32) : Prop := xEX k_X8_tells 1 (xCd d) F 25 [some (.ref 9), some (.int a1)] [] (xS I L z) b
def h_X8_tells_33 (d : Nat) (F : xQ) (b : Nat × Nat) (I : xI) (L : xL) (z : Bool × Bool × Nat) (a1 : Int32) (s0 : Int32) : Prop := xEX k_X8_tells 1 (xCd d) F 33 [some (.ref 9), some (.int a1)] [.int s0] (xS I L z) b
set_option maxRecDepth 100000 in
theorem g_X8_tells_0 {d : Nat} {F : xQ} {b : Nat × Nat} {I : xI} {L : xL} {z : Bool × Bool × Nat} {a1 : Int32} (hd : 1 ≤ d) (h : (if p_X6_hasTeller I L a1 then xCd d 114 [.ref 37] (xS I L z) (fun r τ => xEX k_X8_tells 1 (xCd d) F 25 [some (.ref 9), some (.int a1)] (r.toList ++ []) τ b) else F (some (.int (-2 : Int32))) (xS (xrfu I (-2 : Int32)) L z))) : h_X8_tells_0 d F b I L z a1 :=
  (xgo b_X8_tells_0 (xuse1 s_X6_hasTeller (Nat.le_trans (by decide) hd) (xgo b_X8_tells_8 (xiteB (fun c1395 h1395 => h1395) (fun c1395 h1395 => (xuse1 s_X8_refuse (Nat.le_trans (by decide) hd) (xgo b_X8_tells_17 h1395))) h))))
theorem c_X8_tells {d : Nat} {F : xQ} {I : xI} {L : xL} {z : Bool × Bool × Nat} {a1 : Int32} (h : h_X8_tells_0 d F (0, 0) I L z a1) : xCd (d + 1) 165 [.ref 9, .int a1] (xS I L z) F :=
  xin_ (T := k_X8_tells) (rt := 1) (ls := [some (.ref 9), some (.int a1)]) rfl rfl rfl rfl h
set_option maxRecDepth 100000 in
theorem g_X8_tells_25 {d : Nat} {F : xQ} {b : Nat × Nat} {I : xI} {L : xL} {z : Bool × Bool × Nat} {a1 : Int32} (hd : 1 ≤ d) (h : xCd d 75 [.ref 56, .int a1] (xS I L z) (fun r τ => xEX k_X8_tells 1 (xCd d) F 33 [some (.ref 9), some (.int a1)] (r.toList ++ []) τ b)) : h_X8_tells_25 d F b I L z a1 :=
  (xgo b_X8_tells_25 h)
set_option maxRecDepth 100000 in
theorem g_X8_tells_33 {d : Nat} {F : xQ} {b : Nat × Nat} {I : xI} {L : xL} {z : Bool × Bool × Nat} {a1 : Int32} {s0 : Int32} (hd : 1 ≤ d) (h : F (some (.int s0)) (xS I L z)) : h_X8_tells_33 d F b I L z a1 s0 :=
  (xgo b_X8_tells_33 h)
def h_X8_odd_0 (d : Nat) (F : xQ) (b : Nat × Nat) (I : xI) (L : xL) (z : Bool × Bool × Nat) (a1 : Int32) : Prop := xEX k_X8_odd 1 (xCd d) F 0 [some (.ref 9), some (.int a1)] [] (xS I L z) b
def h_X8_odd_25 (d : Nat) (F : xQ) (b : Nat × Nat) (I : xI) (L : xL) (z : Bool × Bool × Nat) (a1 : Int32) : Prop := xEX k_X8_odd 1 (xCd d) F 25 [some (.ref 9), some (.int a1)] [] (xS I L z) b
def h_X8_odd_33 (d : Nat) (F : xQ) (b : Nat × Nat) (I : xI) (L : xL) (z : Bool × Bool × Nat) (a1 : Int32) (s0 : Int32) : Prop := xEX k_X8_odd 1 (xCd d) F 33 [some (.ref 9), some (.int a1)] [.int s0] (xS I L z) b
set_option maxRecDepth 100000 in
theorem g_X8_odd_0 {d : Nat} {F : xQ} {b : Nat × Nat} {I : xI} {L : xL} {z : Bool × Bool × Nat} {a1 : Int32} (hd : 1 ≤ d) (h : (if p_X6_hasPlace I L a1 then xCd d 114 [.ref 37] (xS I L z) (fun r τ => xEX k_X8_odd 1 (xCd d) F 25 [some (.ref 9), some (.int a1)] (r.toList ++ []) τ b) else F (some (.int (-2 : Int32))) (xS (xrfu I (-2 : Int32)) L z))) : h_X8_odd_0 d F b I L z a1 :=
  (xgo b_X8_odd_0 (xuse1 s_X6_hasPlace (Nat.le_trans (by decide) hd) (xgo b_X8_odd_8 (xiteB (fun c1398 h1398 => h1398) (fun c1398 h1398 => (xuse1 s_X8_refuse (Nat.le_trans (by decide) hd) (xgo b_X8_odd_17 h1398))) h))))
theorem c_X8_odd {d : Nat} {F : xQ} {I : xI} {L : xL} {z : Bool × Bool × Nat} {a1 : Int32} (h : h_X8_odd_0 d F (0, 0) I L z a1) : xCd (d + 1) 166 [.ref 9, .int a1] (xS I L z) F :=
  xin_ (T := k_X8_odd) (rt := 1) (ls := [some (.ref 9), some (.int a1)]) rfl rfl rfl rfl h
set_option maxRecDepth 100000 in
theorem g_X8_odd_25 {d : Nat} {F : xQ} {b : Nat × Nat} {I : xI} {L : xL} {z : Bool × Bool × Nat} {a1 : Int32} (hd : 1 ≤ d) (h : xCd d 131 [.ref 37, .int a1] (xS I L z) (fun r τ => xEX k_X8_odd 1 (xCd d) F 33 [some (.ref 9), some (.int a1)] (r.toList ++ []) τ b)) : h_X8_odd_25 d F b I L z a1 :=
  (xgo b_X8_odd_25 h)
set_option maxRecDepth 100000 in
theorem g_X8_odd_33 {d : Nat} {F : xQ} {b : Nat × Nat} {I : xI} {L : xL} {z : Bool × Bool × Nat} {a1 : Int32} {s0 : Int32} (hd : 1 ≤ d) (h : F (some (.int s0)) (xS I L z)) : h_X8_odd_33 d F b I L z a1 s0 :=
  (xgo b_X8_odd_33 h)
def h_X8_turned_0 (d : Nat) (F : xQ) (b : Nat × Nat) (I : xI) (L : xL) (z : Bool × Bool × Nat)  : Prop := xEX k_X8_turned 1 (xCd d) F 0 [some (.ref 9)] [] (xS I L z) b
def h_X8_turned_7 (d : Nat) (F : xQ) (b : Nat × Nat) (I : xI) (L : xL) (z : Bool × Bool × Nat) (s0 : Int32) : Prop := xEX k_X8_turned 1 (xCd d) F 7 [some (.ref 9)] [.int s0] (xS I L z) b
set_option maxRecDepth 100000 in
theorem g_X8_turned_0 {d : Nat} {F : xQ} {b : Nat × Nat} {I : xI} {L : xL} {z : Bool × Bool × Nat}  (hd : 0 ≤ d) (h : xCd d 106 [.ref 10] (xS I L z) (fun r τ => xEX k_X8_turned 1 (xCd d) F 7 [some (.ref 9)] (r.toList ++ []) τ b)) : h_X8_turned_0 d F b I L z  :=
  (xgo b_X8_turned_0 h)
theorem c_X8_turned {d : Nat} {F : xQ} {I : xI} {L : xL} {z : Bool × Bool × Nat}  (h : h_X8_turned_0 d F (0, 0) I L z ) : xCd (d + 1) 167 [.ref 9] (xS I L z) F :=
  xin_ (T := k_X8_turned) (rt := 1) (ls := [some (.ref 9)]) rfl rfl rfl rfl h
set_option maxRecDepth 100000 in
theorem g_X8_turned_7 {d : Nat} {F : xQ} {b : Nat × Nat} {I : xI} {L : xL} {z : Bool × Bool × Nat} {s0 : Int32} (hd : 0 ≤ d) (h : F (some (.int s0)) (xS I L z)) : h_X8_turned_7 d F b I L z s0 :=
  (xgo b_X8_turned_7 h)
def h_X8_look_0 (d : Nat) (F : xQ) (b : Nat × Nat) (I : xI) (L : xL) (z : Bool × Bool × Nat) (a1 : Int32) (a2 : Int32) : Prop := xEX k_X8_look 1 (xCd d) F 0 [some (.ref 9), some (.int a1), some (.int a2), none] [] (xS I L z) b
def h_X8_look_45 (d : Nat) (F : xQ) (b : Nat × Nat) (I : xI) (L : xL) (z : Bool × Bool × Nat) (a1 : Int32) (a2 : Int32) (a3 : Int32) (s0 : Int32) : Prop := xEX k_X8_look 1 (xCd d) F 45 [some (.ref 9), some (.int a1), some (.int a2), some (.int a3)] [.int s0] (xS I L z) b
set_option maxRecDepth 100000 in
theorem g_X8_look_0 {d : Nat} {F : xQ} {b : Nat × Nat} {I : xI} {L : xL} {z : Bool × Bool × Nat} {a1 : Int32} {a2 : Int32} (hd : 2 ≤ d) (h : (if p_X6_hasPlace I L a1 then (if p_X8_isSignKind I L a2 then xCd d 100 [.ref 10, .int a1, .int a2, .int (f_X6_numberInTruth I L a1 a2)] (xS I L z) (fun r τ => xEX k_X8_look 1 (xCd d) F 45 [some (.ref 9), some (.int a1), some (.int a2), some (.int (f_X6_numberInTruth I L a1 a2))] (r.toList ++ []) τ b) else F (some (.int (-2 : Int32))) (xS (xrfu I (-2 : Int32)) L z)) else F (some (.int (-2 : Int32))) (xS (xrfu I (-2 : Int32)) L z))) : h_X8_look_0 d F b I L z a1 a2 :=
  (xgo b_X8_look_0 (xuse1 s_X6_hasPlace (Nat.le_trans (by decide) hd) (xgo b_X8_look_8 (xiteB (fun c1401 h1401 => (xuse1 s_X8_isSignKind (Nat.le_trans (by decide) hd) (xgo b_X8_look_15 (xiteB (fun c1402 h1402 => (xuse1 s_X6_numberInTruth (Nat.le_trans (by decide) hd) (xgo b_X8_look_34 h1402))) (fun c1402 h1402 => (xuse1 s_X8_refuse (Nat.le_trans (by decide) hd) (xgo b_X8_look_24 h1402))) h1401)))) (fun c1401 h1401 => (xuse1 s_X8_refuse (Nat.le_trans (by decide) hd) (xgo b_X8_look_24 h1401))) h))))
theorem c_X8_look {d : Nat} {F : xQ} {I : xI} {L : xL} {z : Bool × Bool × Nat} {a1 : Int32} {a2 : Int32} (h : h_X8_look_0 d F (0, 0) I L z a1 a2) : xCd (d + 1) 168 [.ref 9, .int a1, .int a2] (xS I L z) F :=
  xin_ (T := k_X8_look) (rt := 1) (ls := [some (.ref 9), some (.int a1), some (.int a2), none]) rfl rfl rfl rfl h
set_option maxRecDepth 100000 in
theorem g_X8_look_45 {d : Nat} {F : xQ} {b : Nat × Nat} {I : xI} {L : xL} {z : Bool × Bool × Nat} {a1 : Int32} {a2 : Int32} {a3 : Int32} {s0 : Int32} (hd : 2 ≤ d) (h : (if s0 = 0 then F (some (.int (-6 : Int32))) (xS (xrfu I (-6 : Int32)) L z) else F (some (.int a3)) (xS I L z))) : h_X8_look_45 d F b I L z a1 a2 a3 s0 :=
  (xgo b_X8_look_45 (xite (fun c1403 h1403 => (xuse1 s_X8_refuse (Nat.le_trans (by decide) hd) (xgo b_X8_look_54 h1403))) (fun c1403 h1403 => h1403) h))
def h_X8_tries_0 (d : Nat) (F : xQ) (b : Nat × Nat) (I : xI) (L : xL) (z : Bool × Bool × Nat) (a1 : Int32) : Prop := xEX k_X8_tries 1 (xCd d) F 0 [some (.ref 9), some (.int a1), none, none, none, none] [] (xS I L z) b
def h_X8_tries_20 (d : Nat) (F : xQ) (b : Nat × Nat) (I : xI) (L : xL) (z : Bool × Bool × Nat) (a1 : Int32) (a2 : Int32) : Prop := xEX k_X8_tries 1 (xCd d) F 20 [some (.ref 9), some (.int a1), some (.int a2), none, none, none] [] (xS I L z) b
def h_X8_tries_33 (d : Nat) (F : xQ) (b : Nat × Nat) (I : xI) (L : xL) (z : Bool × Bool × Nat) (a1 : Int32) (a2 : Int32) : Prop := xEX k_X8_tries 1 (xCd d) F 33 [some (.ref 9), some (.int a1), some (.int a2), none, none, none] [] (xS I L z) b
def h_X8_tries_41 (d : Nat) (F : xQ) (b : Nat × Nat) (I : xI) (L : xL) (z : Bool × Bool × Nat) (a1 : Int32) (a2 : Int32) (s0 : Int32) : Prop := xEX k_X8_tries 1 (xCd d) F 41 [some (.ref 9), some (.int a1), some (.int a2), none, none, none] [.int s0] (xS I L z) b
def h_X8_tries_72 (d : Nat) (F : xQ) (b : Nat × Nat) (I : xI) (L : xL) (z : Bool × Bool × Nat) (a1 : Int32) (a2 : Int32) (a3 : Int32) (a4 : Int32) (a5 : Int32) (s0 : Int32) : Prop := xEX k_X8_tries 1 (xCd d) F 72 [some (.ref 9), some (.int a1), some (.int a2), some (.int a3), some (.int a4), some (.int a5)] [.int s0] (xS I L z) b
def h_X8_tries_99 (d : Nat) (F : xQ) (b : Nat × Nat) (I : xI) (L : xL) (z : Bool × Bool × Nat) (a1 : Int32) (a2 : Int32) (a3 : Int32) (a4 : Int32) (a5 : Int32) (s0 : Int32) : Prop := xEX k_X8_tries 1 (xCd d) F 99 [some (.ref 9), some (.int a1), some (.int a2), some (.int a3), some (.int a4), some (.int a5)] [.int s0] (xS I L z) b
set_option maxRecDepth 100000 in
theorem g_X8_tries_0 {d : Nat} {F : xQ} {b : Nat × Nat} {I : xI} {L : xL} {z : Bool × Bool × Nat} {a1 : Int32} (hd : 2 ≤ d) (h : (if p_X6_hasTeller I L a1 then h_X8_tries_20 d F b I L z a1 0 else F (some (.int (-2 : Int32))) (xS (xrfu I (-2 : Int32)) L z))) : h_X8_tries_0 d F b I L z a1 :=
  (xgo b_X8_tries_0 (xuse1 s_X6_hasTeller (Nat.le_trans (by decide) hd) (xgo b_X8_tries_8 (xiteB (fun c1415 h1415 => h1415) (fun c1415 h1415 => (xuse1 s_X8_refuse (Nat.le_trans (by decide) hd) (xgo b_X8_tries_17 h1415))) h))))
theorem c_X8_tries {d : Nat} {F : xQ} {I : xI} {L : xL} {z : Bool × Bool × Nat} {a1 : Int32} (h : h_X8_tries_0 d F (0, 0) I L z a1) : xCd (d + 1) 169 [.ref 9, .int a1] (xS I L z) F :=
  xin_ (T := k_X8_tries) (rt := 1) (ls := [some (.ref 9), some (.int a1), none, none, none, none]) rfl rfl rfl rfl h
set_option maxRecDepth 100000 in
theorem g_X8_tries_20 {d : Nat} {F : xQ} {b : Nat × Nat} {I : xI} {L : xL} {z : Bool × Bool × Nat} {a1 : Int32} {a2 : Int32} (hd : 2 ≤ d) (h : (if 24 < a2 then F (some (.int 24)) (xS I L z) else xCd d 114 [.ref 37] (xS I L z) (fun r τ => xEX k_X8_tries 1 (xCd d) F 33 [some (.ref 9), some (.int a1), some (.int a2), none, none, none] (r.toList ++ []) τ b))) : h_X8_tries_20 d F b I L z a1 a2 :=
  (xgo b_X8_tries_20 h)
set_option maxRecDepth 100000 in
theorem g_X8_tries_33 {d : Nat} {F : xQ} {b : Nat × Nat} {I : xI} {L : xL} {z : Bool × Bool × Nat} {a1 : Int32} {a2 : Int32} (hd : 2 ≤ d) (h : xCd d 75 [.ref 56, .int a1] (xS I L z) (fun r τ => xEX k_X8_tries 1 (xCd d) F 41 [some (.ref 9), some (.int a1), some (.int a2), none, none, none] (r.toList ++ []) τ b)) : h_X8_tries_33 d F b I L z a1 a2 :=
  (xgo b_X8_tries_33 h)
set_option maxRecDepth 100000 in
theorem g_X8_tries_41 {d : Nat} {F : xQ} {b : Nat × Nat} {I : xI} {L : xL} {z : Bool × Bool × Nat} {a1 : Int32} {a2 : Int32} {s0 : Int32} (hd : 2 ≤ d) (h : (if s0 = (-1 : Int32) then F (some (.int a2)) (xS I L z) else xCd d 99 [.ref 10, .int (s0 / 10), .int (s0 - s0 / 10 * 10)] (xS I L z) (fun r τ => xEX k_X8_tries 1 (xCd d) F 72 [some (.ref 9), some (.int a1), some (.int a2), some (.int s0), some (.int (s0 / 10)), some (.int (s0 - s0 / 10 * 10))] (r.toList ++ []) τ b))) : h_X8_tries_41 d F b I L z a1 a2 s0 :=
  (xgo b_X8_tries_41 h)
set_option maxRecDepth 100000 in
theorem g_X8_tries_72 {d : Nat} {F : xQ} {b : Nat × Nat} {I : xI} {L : xL} {z : Bool × Bool × Nat} {a1 : Int32} {a2 : Int32} {a3 : Int32} {a4 : Int32} {a5 : Int32} {s0 : Int32} (hd : 2 ≤ d) (h : (if s0 = 0 then xCd d 100 [.ref 10, .int a4, .int a5, .int (f_X6_numberInTruth I L a4 a5)] (xS I L z) (fun r τ => xEX k_X8_tries 1 (xCd d) F 99 [some (.ref 9), some (.int a1), some (.int a2), some (.int a3), some (.int a4), some (.int a5)] (r.toList ++ []) τ b) else F (some (.int a2)) (xS I L z))) : h_X8_tries_72 d F b I L z a1 a2 a3 a4 a5 s0 :=
  (xgo b_X8_tries_72 (xite (fun c1418 h1418 => (xuse1 s_X6_numberInTruth (Nat.le_trans (by decide) hd) (xgo b_X8_tries_96 h1418))) (fun c1418 h1418 => h1418) h))
set_option maxRecDepth 100000 in
theorem g_X8_tries_99 {d : Nat} {F : xQ} {b : Nat × Nat} {I : xI} {L : xL} {z : Bool × Bool × Nat} {a1 : Int32} {a2 : Int32} {a3 : Int32} {a4 : Int32} {a5 : Int32} {s0 : Int32} (hd : 2 ≤ d) (h : (if s0 = 0 then F (some (.int (-6 : Int32))) (xS (xrfu I (-6 : Int32)) L z) else h_X8_tries_20 d F b I L z a1 (a2 + 1))) : h_X8_tries_99 d F b I L z a1 a2 a3 a4 a5 s0 :=
  (xgo b_X8_tries_99 (xite (fun c1419 h1419 => (xuse1 s_X8_refuse (Nat.le_trans (by decide) hd) (xgo b_X8_tries_108 h1419))) (fun c1419 h1419 => (xwk (ls := [some (.ref 9), some (.int a1), some (.int (a2 + 1)), none, none, none]) ⟨⟨rfl, ⟨rfl, ⟨rfl, trivial⟩⟩⟩, rfl⟩ h1419)) h))
def h_X8_stairs_0 (d : Nat) (F : xQ) (b : Nat × Nat) (I : xI) (L : xL) (z : Bool × Bool × Nat)  : Prop := xEX k_X8_stairs 1 (xCd d) F 0 [some (.ref 9), none] [] (xS I L z) b
def h_X8_stairs_7 (d : Nat) (F : xQ) (b : Nat × Nat) (I : xI) (L : xL) (z : Bool × Bool × Nat)  : Prop := xEX k_X8_stairs 1 (xCd d) F 7 [some (.ref 9), none] [] (xS I L z) b
def h_X8_stairs_37 (d : Nat) (F : xQ) (b : Nat × Nat) (I : xI) (L : xL) (z : Bool × Bool × Nat) (a1 : Int32) : Prop := xEX k_X8_stairs 1 (xCd d) F 37 [some (.ref 9), some (.int a1)] [] (xS I L z) b
set_option maxRecDepth 100000 in
theorem g_X8_stairs_0 {d : Nat} {F : xQ} {b : Nat × Nat} {I : xI} {L : xL} {z : Bool × Bool × Nat}  (hd : 1 ≤ d) (h : xCd d 114 [.ref 37] (xS I L z) (fun r τ => xEX k_X8_stairs 1 (xCd d) F 7 [some (.ref 9), none] (r.toList ++ []) τ b)) : h_X8_stairs_0 d F b I L z  :=
  (xgo b_X8_stairs_0 h)
theorem c_X8_stairs {d : Nat} {F : xQ} {I : xI} {L : xL} {z : Bool × Bool × Nat}  (h : h_X8_stairs_0 d F (0, 0) I L z ) : xCd (d + 1) 170 [.ref 9] (xS I L z) F :=
  xin_ (T := k_X8_stairs) (rt := 1) (ls := [some (.ref 9), none]) rfl rfl rfl rfl h
set_option maxRecDepth 100000 in
theorem g_X8_stairs_7 {d : Nat} {F : xQ} {b : Nat × Nat} {I : xI} {L : xL} {z : Bool × Bool × Nat}  (hd : 1 ≤ d) (h : (if 0 < (I 37 0) then (if (I 37 0) = 0 then False else xCd d 90 [.ref 10, .int (f_X7_worldOf (xw I 10 2 (((I 10 2) * 1103515245) + 12345)) L (((Int32.toUInt32 ((xw I 10 2 (((I 10 2) * 1103515245) + 12345)) 10 2) >>> (Int32.toUInt32 16 &&& Int32.toUInt32 31)).toInt32) - ((Int32.toUInt32 ((xw I 10 2 (((I 10 2) * 1103515245) + 12345)) 10 2) >>> (Int32.toUInt32 16 &&& Int32.toUInt32 31)).toInt32) / (I 37 0) * (I 37 0)))] (xS (xw I 10 2 (((I 10 2) * 1103515245) + 12345)) L z) (fun r τ => xEX k_X8_stairs 1 (xCd d) F 37 [some (.ref 9), some (.int (I 37 0))] (r.toList ++ []) τ b)) else xCd d 90 [.ref 10, .int (f_X7_worldOf (xw I 10 2 (((I 10 2) * 1103515245) + 12345)) L 0)] (xS (xw I 10 2 (((I 10 2) * 1103515245) + 12345)) L z) (fun r τ => xEX k_X8_stairs 1 (xCd d) F 37 [some (.ref 9), some (.int (I 37 0))] (r.toList ++ []) τ b))) : h_X8_stairs_7 d F b I L z  :=
  (xgo b_X8_stairs_7 (xupD (c_X6_draw (xite (fun c1422 h1422 => (xite (fun c1423 h1423 => h1423) (fun c1423 h1423 => (xgo b_X8_stairs_31 (xuse1 s_X7_worldOf (Nat.le_trans (by decide) hd) (xgo b_X8_stairs_34 h1423)))) h1422)) (fun c1422 h1422 => (xgo b_X8_stairs_31 (xuse1 s_X7_worldOf (Nat.le_trans (by decide) hd) (xgo b_X8_stairs_34 h1422)))) h)) (Nat.le_trans (by decide) hd)))
set_option maxRecDepth 100000 in
theorem g_X8_stairs_37 {d : Nat} {F : xQ} {b : Nat × Nat} {I : xI} {L : xL} {z : Bool × Bool × Nat} {a1 : Int32} (hd : 1 ≤ d) (h : F (some (.int a1)) (xS I L z)) : h_X8_stairs_37 d F b I L z a1 :=
  (xgo b_X8_stairs_37 h)
def h_X8_truth_0 (d : Nat) (F : xQ) (b : Nat × Nat) (I : xI) (L : xL) (z : Bool × Bool × Nat) (a1 : Int32) : Prop := xEX k_X8_truth 1 (xCd d) F 0 [some (.ref 9), some (.int a1), none, none] [] (xS I L z) b
def h_X8_truth_5 (d : Nat) (F : xQ) (b : Nat × Nat) (I : xI) (L : xL) (z : Bool × Bool × Nat) (a1 : Int32) (s0 : Int32) : Prop := xEX k_X8_truth 1 (xCd d) F 5 [some (.ref 9), some (.int a1), none, none] [.int s0] (xS I L z) b
def h_X8_truth_23 (d : Nat) (F : xQ) (b : Nat × Nat) (I : xI) (L : xL) (z : Bool × Bool × Nat) (a1 : Int32) (a2 : Int32) : Prop := xEX k_X8_truth 1 (xCd d) F 23 [some (.ref 9), some (.int a1), some (.int a2), none] [] (xS I L z) b
def h_X8_truth_37 (d : Nat) (F : xQ) (b : Nat × Nat) (I : xI) (L : xL) (z : Bool × Bool × Nat) (a1 : Int32) (a2 : Int32) (s0 : Int32) : Prop := xEX k_X8_truth 1 (xCd d) F 37 [some (.ref 9), some (.int a1), some (.int a2), none] [.int s0] (xS I L z) b
def h_X8_truth_46 (d : Nat) (F : xQ) (b : Nat × Nat) (I : xI) (L : xL) (z : Bool × Bool × Nat) (a1 : Int32) (a2 : Int32) (a3 : Int32) (s0 : Int32) : Prop := xEX k_X8_truth 1 (xCd d) F 46 [some (.ref 9), some (.int a1), some (.int a2), some (.int a3)] [.int s0] (xS I L z) b
def h_X8_truth_64 (d : Nat) (F : xQ) (b : Nat × Nat) (I : xI) (L : xL) (z : Bool × Bool × Nat) (a1 : Int32) (a2 : Int32) (a3 : Int32) : Prop := xEX k_X8_truth 1 (xCd d) F 64 [some (.ref 9), some (.int a1), some (.int a2), some (.int a3)] [] (xS I L z) b
set_option maxRecDepth 100000 in
theorem g_X8_truth_0 {d : Nat} {F : xQ} {b : Nat × Nat} {I : xI} {L : xL} {z : Bool × Bool × Nat} {a1 : Int32} (hd : 1 ≤ d) (h : xCd d 179 [.ref 9, .int a1] (xS I L z) (fun r τ => xEX k_X8_truth 1 (xCd d) F 5 [some (.ref 9), some (.int a1), none, none] (r.toList ++ []) τ b)) : h_X8_truth_0 d F b I L z a1 :=
  (xgo b_X8_truth_0 h)
theorem c_X8_truth {d : Nat} {F : xQ} {I : xI} {L : xL} {z : Bool × Bool × Nat} {a1 : Int32} (h : h_X8_truth_0 d F (0, 0) I L z a1) : xCd (d + 1) 171 [.ref 9, .int a1] (xS I L z) F :=
  xin_ (T := k_X8_truth) (rt := 1) (ls := [some (.ref 9), some (.int a1), none, none]) rfl rfl rfl rfl h
set_option maxRecDepth 100000 in
theorem g_X8_truth_5 {d : Nat} {F : xQ} {b : Nat × Nat} {I : xI} {L : xL} {z : Bool × Bool × Nat} {a1 : Int32} {s0 : Int32} (hd : 1 ≤ d) (h : (if s0 = 0 then xCd d 114 [.ref 37] (xS I L z) (fun r τ => xEX k_X8_truth 1 (xCd d) F 23 [some (.ref 9), some (.int a1), some (.int s0), none] (r.toList ++ []) τ b) else F (some (.int s0)) (xS (xrfu I s0) L z))) : h_X8_truth_5 d F b I L z a1 s0 :=
  (xgo b_X8_truth_5 (xite (fun c1429 h1429 => h1429) (fun c1429 h1429 => (xuse1 s_X8_refuse (Nat.le_trans (by decide) hd) (xgo b_X8_truth_15 h1429))) h))
set_option maxRecDepth 100000 in
theorem g_X8_truth_23 {d : Nat} {F : xQ} {b : Nat × Nat} {I : xI} {L : xL} {z : Bool × Bool × Nat} {a1 : Int32} {a2 : Int32} (hd : 1 ≤ d) (h : xCd d 113 [.ref 64, .int (I 10 0)] (xS I L z) (fun r τ => xEX k_X8_truth 1 (xCd d) F 37 [some (.ref 9), some (.int a1), some (.int a2), none] (r.toList ++ []) τ b)) : h_X8_truth_23 d F b I L z a1 a2 :=
  (xgo b_X8_truth_23 h)
set_option maxRecDepth 100000 in
theorem g_X8_truth_37 {d : Nat} {F : xQ} {b : Nat × Nat} {I : xI} {L : xL} {z : Bool × Bool × Nat} {a1 : Int32} {a2 : Int32} {s0 : Int32} (hd : 1 ≤ d) (h : xCd d 124 [.ref 37, .int s0] (xS I L z) (fun r τ => xEX k_X8_truth 1 (xCd d) F 46 [some (.ref 9), some (.int a1), some (.int a2), some (.int s0)] (r.toList ++ []) τ b)) : h_X8_truth_37 d F b I L z a1 a2 s0 :=
  (xgo b_X8_truth_37 h)
set_option maxRecDepth 100000 in
theorem g_X8_truth_46 {d : Nat} {F : xQ} {b : Nat × Nat} {I : xI} {L : xL} {z : Bool × Bool × Nat} {a1 : Int32} {a2 : Int32} {a3 : Int32} {s0 : Int32} (hd : 1 ≤ d) (h : (if s0 = 0 then F (some (.int (-5 : Int32))) (xS (xrfu I (-5 : Int32)) L z) else xCd d 90 [.ref 10, .int a3] (xS I L z) (fun r τ => xEX k_X8_truth 1 (xCd d) F 64 [some (.ref 9), some (.int a1), some (.int a2), some (.int a3)] (r.toList ++ []) τ b))) : h_X8_truth_46 d F b I L z a1 a2 a3 s0 :=
  (xgo b_X8_truth_46 (xite (fun c1430 h1430 => (xuse1 s_X8_refuse (Nat.le_trans (by decide) hd) (xgo b_X8_truth_55 h1430))) (fun c1430 h1430 => h1430) h))
set_option maxRecDepth 100000 in
theorem g_X8_truth_64 {d : Nat} {F : xQ} {b : Nat × Nat} {I : xI} {L : xL} {z : Bool × Bool × Nat} {a1 : Int32} {a2 : Int32} {a3 : Int32} (hd : 1 ≤ d) (h : F (some (.int 1)) (xS I L z)) : h_X8_truth_64 d F b I L z a1 a2 a3 :=
  (xgo b_X8_truth_64 h)
def h_X8_image_0 (d : Nat) (F : xQ) (b : Nat × Nat) (I : xI) (L : xL) (z : Bool × Bool × Nat)  : Prop := xEX k_X8_image 1 (xCd d) F 0 [some (.ref 9)] [] (xS I L z) b
def h_X8_image_11 (d : Nat) (F : xQ) (b : Nat × Nat) (I : xI) (L : xL) (z : Bool × Bool × Nat)  : Prop := xEX k_X8_image 1 (xCd d) F 11 [some (.ref 9)] [] (xS I L z) b
set_option maxRecDepth 100000 in
theorem g_X8_image_0 {d : Nat} {F : xQ} {b : Nat × Nat} {I : xI} {L : xL} {z : Bool × Bool × Nat}  (hd : 0 ≤ d) (h : xCd d 81 [.ref 19, .ref 10] (xS I L z) (fun r τ => xEX k_X8_image 1 (xCd d) F 11 [some (.ref 9)] (r.toList ++ []) τ b)) : h_X8_image_0 d F b I L z  :=
  (xgo b_X8_image_0 h)
theorem c_X8_image {d : Nat} {F : xQ} {I : xI} {L : xL} {z : Bool × Bool × Nat}  (h : h_X8_image_0 d F (0, 0) I L z ) : xCd (d + 1) 174 [.ref 9] (xS I L z) F :=
  xin_ (T := k_X8_image) (rt := 1) (ls := [some (.ref 9)]) rfl rfl rfl rfl h
set_option maxRecDepth 100000 in
theorem g_X8_image_11 {d : Nat} {F : xQ} {b : Nat × Nat} {I : xI} {L : xL} {z : Bool × Bool × Nat}  (hd : 0 ≤ d) (h : F (some (.int 1)) (xS (xw I 9 11 1) L z)) : h_X8_image_11 d F b I L z  :=
  (xgo b_X8_image_11 h)
def h_X8_back_0 (d : Nat) (F : xQ) (b : Nat × Nat) (I : xI) (L : xL) (z : Bool × Bool × Nat)  : Prop := xEX k_X8_back 1 (xCd d) F 0 [some (.ref 9)] [] (xS I L z) b
def h_X8_back_25 (d : Nat) (F : xQ) (b : Nat × Nat) (I : xI) (L : xL) (z : Bool × Bool × Nat)  : Prop := xEX k_X8_back 1 (xCd d) F 25 [some (.ref 9)] [] (xS I L z) b
def h_X8_back_39 (d : Nat) (F : xQ) (b : Nat × Nat) (I : xI) (L : xL) (z : Bool × Bool × Nat)  : Prop := xEX k_X8_back 1 (xCd d) F 39 [some (.ref 9)] [] (xS I L z) b
set_option maxRecDepth 100000 in
theorem g_X8_back_0 {d : Nat} {F : xQ} {b : Nat × Nat} {I : xI} {L : xL} {z : Bool × Bool × Nat}  (hd : 1 ≤ d) (h : (if (I 9 11) = 0 then F (some (.int (-5 : Int32))) (xS (xrfu I (-5 : Int32)) L z) else xCd d 81 [.ref 10, .ref 19] (xS I L z) (fun r τ => xEX k_X8_back 1 (xCd d) F 25 [some (.ref 9)] (r.toList ++ []) τ b))) : h_X8_back_0 d F b I L z  :=
  (xgo b_X8_back_0 (xite (fun c1433 h1433 => (xuse1 s_X8_refuse (Nat.le_trans (by decide) hd) (xgo b_X8_back_13 h1433))) (fun c1433 h1433 => h1433) h))
theorem c_X8_back {d : Nat} {F : xQ} {I : xI} {L : xL} {z : Bool × Bool × Nat}  (h : h_X8_back_0 d F (0, 0) I L z ) : xCd (d + 1) 175 [.ref 9] (xS I L z) F :=
  xin_ (T := k_X8_back) (rt := 1) (ls := [some (.ref 9)]) rfl rfl rfl rfl h
set_option maxRecDepth 100000 in
theorem g_X8_back_25 {d : Nat} {F : xQ} {b : Nat × Nat} {I : xI} {L : xL} {z : Bool × Bool × Nat}  (hd : 1 ≤ d) (h : xCd d 50 [.ref 57, .int (I 10 4)] (xS I L z) (fun r τ => xEX k_X8_back 1 (xCd d) F 39 [some (.ref 9)] (r.toList ++ []) τ b)) : h_X8_back_25 d F b I L z  :=
  (xgo b_X8_back_25 h)
set_option maxRecDepth 100000 in
theorem g_X8_back_39 {d : Nat} {F : xQ} {b : Nat × Nat} {I : xI} {L : xL} {z : Bool × Bool × Nat}  (hd : 1 ≤ d) (h : F (some (.int 1)) (xS I L z)) : h_X8_back_39 d F b I L z  :=
  (xgo b_X8_back_39 h)
def h_X8_status_0 (d : Nat) (F : xQ) (b : Nat × Nat) (I : xI) (L : xL) (z : Bool × Bool × Nat) (a1 : Int32) : Prop := xEX k_X8_status 1 (xCd d) F 0 [some (.ref 9), some (.int a1)] [] (xS I L z) b
def h_X8_status_87 (d : Nat) (F : xQ) (b : Nat × Nat) (I : xI) (L : xL) (z : Bool × Bool × Nat) (a1 : Int32) (s0 : Int32) : Prop := xEX k_X8_status 1 (xCd d) F 87 [some (.ref 9), some (.int a1)] [.int s0] (xS I L z) b
def h_X8_status_111 (d : Nat) (F : xQ) (b : Nat × Nat) (I : xI) (L : xL) (z : Bool × Bool × Nat) (a1 : Int32) (s0 : Int32) : Prop := xEX k_X8_status 1 (xCd d) F 111 [some (.ref 9), some (.int a1)] [.int s0] (xS I L z) b
set_option maxRecDepth 100000 in
theorem g_X8_status_0 {d : Nat} {F : xQ} {b : Nat × Nat} {I : xI} {L : xL} {z : Bool × Bool × Nat} {a1 : Int32} (hd : 0 ≤ d) (h : (if a1 = 0 then F (some (.int (I 10 0))) (xS I L z) else (if a1 = 1 then F (some (.int (I 10 1))) (xS I L z) else (if a1 = 2 then F (some (.int (I 10 4))) (xS I L z) else (if a1 = 3 then F (some (.int (I 10 3))) (xS I L z) else (if a1 = 4 then xCd d 103 [.ref 10] (xS I L z) (fun r τ => xEX k_X8_status 1 (xCd d) F 87 [some (.ref 9), some (.int a1)] (r.toList ++ []) τ b) else (if a1 = 5 then F (some (.int (I 61 0))) (xS I L z) else (if a1 = 6 then F (some (.int (I 10 2))) (xS I L z) else (if a1 = 7 then xCd d 51 [.ref 57] (xS I L z) (fun r τ => xEX k_X8_status 1 (xCd d) F 111 [some (.ref 9), some (.int a1)] (r.toList ++ []) τ b) else (if a1 < 12 then F (some (.int (-1 : Int32))) (xS I L z) else (if a1 < 17 then (if xin (a1 - 12) (5) then F (some (.int (I 65 (Int32.toNatClampNeg (a1 - 12))))) (xS I L z) else False) else F (some (.int (-1 : Int32))) (xS I L z)))))))))))) : h_X8_status_0 d F b I L z a1 :=
  (xgo b_X8_status_0 h)
theorem c_X8_status {d : Nat} {F : xQ} {I : xI} {L : xL} {z : Bool × Bool × Nat} {a1 : Int32} (h : h_X8_status_0 d F (0, 0) I L z a1) : xCd (d + 1) 176 [.ref 9, .int a1] (xS I L z) F :=
  xin_ (T := k_X8_status) (rt := 1) (ls := [some (.ref 9), some (.int a1)]) rfl rfl rfl rfl h
set_option maxRecDepth 100000 in
theorem g_X8_status_87 {d : Nat} {F : xQ} {b : Nat × Nat} {I : xI} {L : xL} {z : Bool × Bool × Nat} {a1 : Int32} {s0 : Int32} (hd : 0 ≤ d) (h : F (some (.int s0)) (xS I L z)) : h_X8_status_87 d F b I L z a1 s0 :=
  (xgo b_X8_status_87 h)
set_option maxRecDepth 100000 in
theorem g_X8_status_111 {d : Nat} {F : xQ} {b : Nat × Nat} {I : xI} {L : xL} {z : Bool × Bool × Nat} {a1 : Int32} {s0 : Int32} (hd : 0 ≤ d) (h : F (some (.int s0)) (xS I L z)) : h_X8_status_111 d F b I L z a1 s0 :=
  (xgo b_X8_status_111 h)
def h_X8_faultOfTold_0 (d : Nat) (F : xQ) (b : Nat × Nat) (I : xI) (L : xL) (z : Bool × Bool × Nat) (a1 : Int32) : Prop := xEX k_X8_faultOfTold 1 (xCd d) F 0 [some (.ref 9), some (.int a1), none, none, none, none] [] (xS I L z) b
def h_X8_faultOfTold_39 (d : Nat) (F : xQ) (b : Nat × Nat) (I : xI) (L : xL) (z : Bool × Bool × Nat) (a1 : Int32) (a2 : Int32) (a3 : Int32) : Prop := xEX k_X8_faultOfTold 1 (xCd d) F 39 [some (.ref 9), some (.int a1), some (.int a2), some (.int a3), none, none] [] (xS I L z) b
set_option maxRecDepth 100000 in
theorem g_X8_faultOfTold_0 {d : Nat} {F : xQ} {b : Nat × Nat} {I : xI} {L : xL} {z : Bool × Bool × Nat} {a1 : Int32} (hd : 3 ≤ d) (h : (if (f_X2_faultOfRow I L a1) = 0 then (if p_X2_hasElements I L a1 0 (I 10 0) then h_X8_faultOfTold_39 d F b I L z a1 (f_X2_faultOfRow I L a1) 0 else F (some (.int (-2 : Int32))) (xS I L z)) else F (some (.int (f_X2_faultOfRow I L a1))) (xS I L z))) : h_X8_faultOfTold_0 d F b I L z a1 :=
  (xgo b_X8_faultOfTold_0 (xuse1 s_X2_faultOfRow (Nat.le_trans (by decide) hd) (xgo b_X8_faultOfTold_8 (xite (fun c1456 h1456 => (xuse1 s_X2_hasElements (Nat.le_trans (by decide) hd) (xgo b_X8_faultOfTold_31 (xiteB (fun c1457 h1457 => h1457) (fun c1457 h1457 => h1457) h1456)))) (fun c1456 h1456 => h1456) h))))
theorem c_X8_faultOfTold {d : Nat} {F : xQ} {I : xI} {L : xL} {z : Bool × Bool × Nat} {a1 : Int32} (h : h_X8_faultOfTold_0 d F (0, 0) I L z a1) : xCd (d + 1) 178 [.ref 9, .int a1] (xS I L z) F :=
  xin_ (T := k_X8_faultOfTold) (rt := 1) (ls := [some (.ref 9), some (.int a1), none, none, none, none]) rfl rfl rfl rfl h
set_option maxRecDepth 100000 in
theorem g_X8_faultOfTold_39 {d : Nat} {F : xQ} {b : Nat × Nat} {I : xI} {L : xL} {z : Bool × Bool × Nat} {a1 : Int32} {a2 : Int32} {a3 : Int32} (hd : 3 ≤ d) (h : (if a3 < 6 then (if p_X2_hasElement I L a1 a3 then (if xin ((a1 * 40) + a3) (320) then (if (if (L 60 (Int32.toNatClampNeg ((a1 * 40) + a3))) < (Int64.ofNat 0) then -1 else if (L 60 (Int32.toNatClampNeg ((a1 * 40) + a3))) = (Int64.ofNat 0) then 0 else 1 : Int32) < 0 then (if xin a3 (6) then h_X8_faultOfTold_39 d F b (xw I 64 (Int32.toNatClampNeg a3) (-1 : Int32)) L z a1 a2 (a3 + 1) else False) else (if (if (L 60 (Int32.toNatClampNeg ((a1 * 40) + a3))) < (Int64.ofNat 6) then -1 else if (L 60 (Int32.toNatClampNeg ((a1 * 40) + a3))) = (Int64.ofNat 6) then 0 else 1 : Int32) < 0 then (if xin a3 (6) then h_X8_faultOfTold_39 d F b (xw I 64 (Int32.toNatClampNeg a3) (Int64.toInt32 (L 60 (Int32.toNatClampNeg ((a1 * 40) + a3))))) L z a1 a2 (a3 + 1) else False) else (if xin a3 (6) then h_X8_faultOfTold_39 d F b (xw I 64 (Int32.toNatClampNeg a3) (-1 : Int32)) L z a1 a2 (a3 + 1) else False))) else False) else (if (if (Int64.ofNat 0) < (Int64.ofNat 0) then -1 else if (Int64.ofNat 0) = (Int64.ofNat 0) then 0 else 1 : Int32) < 0 then (if xin a3 (6) then h_X8_faultOfTold_39 d F b (xw I 64 (Int32.toNatClampNeg a3) (-1 : Int32)) L z a1 a2 (a3 + 1) else False) else (if (if (Int64.ofNat 0) < (Int64.ofNat 6) then -1 else if (Int64.ofNat 0) = (Int64.ofNat 6) then 0 else 1 : Int32) < 0 then (if xin a3 (6) then h_X8_faultOfTold_39 d F b (xw I 64 (Int32.toNatClampNeg a3) (Int64.toInt32 (Int64.ofNat 0))) L z a1 a2 (a3 + 1) else False) else (if xin a3 (6) then h_X8_faultOfTold_39 d F b (xw I 64 (Int32.toNatClampNeg a3) (-1 : Int32)) L z a1 a2 (a3 + 1) else False)))) else F (some (.int 0)) (xS I L z))) : h_X8_faultOfTold_39 d F b I L z a1 a2 a3 :=
  (xgo b_X8_faultOfTold_39 (xite (fun c1458 h1458 => (xupD (c_X2_elementOf (xite (fun c1459 h1459 => (xite (fun c1460 h1460 => (xgo b_X8_faultOfTold_57 (xite (fun c1461 h1461 => (xite (fun c1462 h1462 => (xwk (ls := [some (.ref 9), some (.int a1), some (.int a2), some (.int (a3 + 1)), none, none]) ⟨⟨rfl, ⟨rfl, ⟨rfl, ⟨rfl, trivial⟩⟩⟩⟩, rfl⟩ h1462)) (fun c1462 h1462 => h1462) h1461)) (fun c1461 h1461 => (xite (fun c1463 h1463 => (xite (fun c1464 h1464 => (xwk (ls := [some (.ref 9), some (.int a1), some (.int a2), some (.int (a3 + 1)), none, none]) ⟨⟨rfl, ⟨rfl, ⟨rfl, ⟨rfl, trivial⟩⟩⟩⟩, rfl⟩ h1464)) (fun c1464 h1464 => h1464) h1463)) (fun c1463 h1463 => (xite (fun c1465 h1465 => (xwk (ls := [some (.ref 9), some (.int a1), some (.int a2), some (.int (a3 + 1)), none, none]) ⟨⟨rfl, ⟨rfl, ⟨rfl, ⟨rfl, trivial⟩⟩⟩⟩, rfl⟩ h1465)) (fun c1465 h1465 => h1465) h1463)) h1461)) h1460))) (fun c1460 h1460 => h1460) h1459)) (fun c1459 h1459 => (xgo b_X8_faultOfTold_57 (xite (fun c1466 h1466 => (xite (fun c1467 h1467 => (xwk (ls := [some (.ref 9), some (.int a1), some (.int a2), some (.int (a3 + 1)), none, none]) ⟨⟨rfl, ⟨rfl, ⟨rfl, ⟨rfl, trivial⟩⟩⟩⟩, rfl⟩ h1467)) (fun c1467 h1467 => h1467) h1466)) (fun c1466 h1466 => (xite (fun c1468 h1468 => (xite (fun c1469 h1469 => (xwk (ls := [some (.ref 9), some (.int a1), some (.int a2), some (.int (a3 + 1)), none, none]) ⟨⟨rfl, ⟨rfl, ⟨rfl, ⟨rfl, trivial⟩⟩⟩⟩, rfl⟩ h1469)) (fun c1469 h1469 => h1469) h1468)) (fun c1468 h1468 => (xite (fun c1470 h1470 => (xwk (ls := [some (.ref 9), some (.int a1), some (.int a2), some (.int (a3 + 1)), none, none]) ⟨⟨rfl, ⟨rfl, ⟨rfl, ⟨rfl, trivial⟩⟩⟩⟩, rfl⟩ h1470)) (fun c1470 h1470 => h1470) h1468)) h1466)) h1459))) h1458)) (Nat.le_trans (by decide) hd))) (fun c1458 h1458 => h1458) h))
def h_X8_faultOfSorts_0 (d : Nat) (F : xQ) (b : Nat × Nat) (I : xI) (L : xL) (z : Bool × Bool × Nat) (a1 : Int32) : Prop := xEX k_X8_faultOfSorts 1 (xCd d) F 0 [some (.ref 9), some (.int a1), none, none] [] (xS I L z) b
def h_X8_faultOfSorts_5 (d : Nat) (F : xQ) (b : Nat × Nat) (I : xI) (L : xL) (z : Bool × Bool × Nat) (a1 : Int32) (s0 : Int32) : Prop := xEX k_X8_faultOfSorts 1 (xCd d) F 5 [some (.ref 9), some (.int a1), none, none] [.int s0] (xS I L z) b
def h_X8_faultOfSorts_8 (d : Nat) (F : xQ) (b : Nat × Nat) (I : xI) (L : xL) (z : Bool × Bool × Nat) (a1 : Int32) (a2 : Int32) (a3 : Int32) : Prop := xEX k_X8_faultOfSorts 1 (xCd d) F 8 [some (.ref 9), some (.int a1), some (.int a2), some (.int a3)] [] (xS I L z) b
set_option maxRecDepth 100000 in
theorem g_X8_faultOfSorts_0 {d : Nat} {F : xQ} {b : Nat × Nat} {I : xI} {L : xL} {z : Bool × Bool × Nat} {a1 : Int32} (hd : 1 ≤ d) (h : xCd d 178 [.ref 9, .int a1] (xS I L z) (fun r τ => xEX k_X8_faultOfSorts 1 (xCd d) F 5 [some (.ref 9), some (.int a1), none, none] (r.toList ++ []) τ b)) : h_X8_faultOfSorts_0 d F b I L z a1 :=
  (xgo b_X8_faultOfSorts_0 h)
theorem c_X8_faultOfSorts {d : Nat} {F : xQ} {I : xI} {L : xL} {z : Bool × Bool × Nat} {a1 : Int32} (h : h_X8_faultOfSorts_0 d F (0, 0) I L z a1) : xCd (d + 1) 179 [.ref 9, .int a1] (xS I L z) F :=
  xin_ (T := k_X8_faultOfSorts) (rt := 1) (ls := [some (.ref 9), some (.int a1), none, none]) rfl rfl rfl rfl h
set_option maxRecDepth 100000 in
theorem g_X8_faultOfSorts_5 {d : Nat} {F : xQ} {b : Nat × Nat} {I : xI} {L : xL} {z : Bool × Bool × Nat} {a1 : Int32} {s0 : Int32} (hd : 1 ≤ d) (h : h_X8_faultOfSorts_8 d F b I L z a1 s0 0) : h_X8_faultOfSorts_5 d F b I L z a1 s0 :=
  (xgo b_X8_faultOfSorts_5 h)
set_option maxRecDepth 100000 in
theorem g_X8_faultOfSorts_8 {d : Nat} {F : xQ} {b : Nat × Nat} {I : xI} {L : xL} {z : Bool × Bool × Nat} {a1 : Int32} {a2 : Int32} {a3 : Int32} (hd : 1 ≤ d) (h : (if a3 < 6 then (if a3 < (I 10 0) then (if a2 = 0 then (if xin a3 (6) then (if p_X8_isSort I L (I 64 (Int32.toNatClampNeg a3)) then h_X8_faultOfSorts_8 d F b I L z a1 a2 (a3 + 1) else h_X8_faultOfSorts_8 d F b I L z a1 (-2 : Int32) (a3 + 1)) else False) else F (some (.int a2)) (xS I L z)) else F (some (.int a2)) (xS I L z)) else F (some (.int a2)) (xS I L z))) : h_X8_faultOfSorts_8 d F b I L z a1 a2 a3 :=
  (xgo b_X8_faultOfSorts_8 (xite (fun c1476 h1476 => (xite (fun c1477 h1477 => (xite (fun c1478 h1478 => (xite (fun c1479 h1479 => (xuse1 s_X8_isSort (Nat.le_trans (by decide) hd) (xgo b_X8_faultOfSorts_41 (xiteB (fun c1480 h1480 => h1480) (fun c1480 h1480 => h1480) h1479)))) (fun c1479 h1479 => h1479) h1478)) (fun c1478 h1478 => h1478) h1477)) (fun c1477 h1477 => h1477) h1476)) (fun c1476 h1476 => h1476) h))
