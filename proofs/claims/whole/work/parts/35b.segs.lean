def h_X4_readNumber_0 (d : Nat) (F : xQ) (b : Nat × Nat) (I : xI) (L : xL) (z : Bool × Bool × Nat) (a1 : Int32) (a2 : Int32) : Prop := xEX k_X4_readNumber 1 (xCd d) F 0 [some (.ref 61), some (.int a1), some (.int a2)] [] (xS I L z) b
def h_X4_readNumber_4 (d : Nat) (F : xQ) (b : Nat × Nat) (I : xI) (L : xL) (z : Bool × Bool × Nat) (a1 : Int32) (a2 : Int32) : Prop := xEX k_X4_readNumber 1 (xCd d) F 4 [some (.ref 61), some (.int a1), some (.int a2)] [] (xS I L z) b
set_option maxRecDepth 100000 in
theorem g_X4_readNumber_0 {d : Nat} {F : xQ} {b : Nat × Nat} {I : xI} {L : xL} {z : Bool × Bool × Nat} {a1 : Int32} {a2 : Int32} (hd : 0 ≤ d) (h : xCd d 61 [.ref 61] (xS I L z) (fun r τ => xEX k_X4_readNumber 1 (xCd d) F 4 [some (.ref 61), some (.int a1), some (.int a2)] (r.toList ++ []) τ b)) : h_X4_readNumber_0 d F b I L z a1 a2 :=
  (xgo b_X4_readNumber_0 h)
theorem c_X4_readNumber {d : Nat} {F : xQ} {I : xI} {L : xL} {z : Bool × Bool × Nat} {a1 : Int32} {a2 : Int32} (h : h_X4_readNumber_0 d F (0, 0) I L z a1 a2) : xCd (d + 1) 65 [.ref 61, .int a1, .int a2] (xS I L z) F :=
  xin_ (T := k_X4_readNumber) (rt := 1) (ls := [some (.ref 61), some (.int a1), some (.int a2)]) rfl rfl rfl rfl h
set_option maxRecDepth 100000 in
theorem g_X4_readNumber_4 {d : Nat} {F : xQ} {b : Nat × Nat} {I : xI} {L : xL} {z : Bool × Bool × Nat} {a1 : Int32} {a2 : Int32} (hd : 0 ≤ d) (h : (if (I 61 7) = 2 then (if (I 61 9) < a1 then F (some (.int (-1 : Int32))) (xS (xw I 61 1 (I 61 8)) L z) else (if a2 < (I 61 9) then F (some (.int (-1 : Int32))) (xS (xw I 61 1 (I 61 8)) L z) else F (some (.int (I 61 9))) (xS I L z))) else F (some (.int (-1 : Int32))) (xS (xw I 61 1 (I 61 8)) L z))) : h_X4_readNumber_4 d F b I L z a1 a2 :=
  (xgo b_X4_readNumber_4 h)
def h_X4_readCups_0 (d : Nat) (F : xQ) (b : Nat × Nat) (I : xI) (L : xL) (z : Bool × Bool × Nat)  : Prop := xEX k_X4_readCups 2 (xCd d) F 0 [some (.ref 61), none] [] (xS I L z) b
def h_X4_readCups_7 (d : Nat) (F : xQ) (b : Nat × Nat) (I : xI) (L : xL) (z : Bool × Bool × Nat) (s0 : Int32) : Prop := xEX k_X4_readCups 2 (xCd d) F 7 [some (.ref 61), none] [.int s0] (xS I L z) b
def h_X4_readCups_23 (d : Nat) (F : xQ) (b : Nat × Nat) (I : xI) (L : xL) (z : Bool × Bool × Nat) (a1 : Int32) : Prop := xEX k_X4_readCups 2 (xCd d) F 23 [some (.ref 61), some (.int a1)] [] (xS I L z) b
set_option maxRecDepth 100000 in
theorem g_X4_readCups_0 {d : Nat} {F : xQ} {b : Nat × Nat} {I : xI} {L : xL} {z : Bool × Bool × Nat}  (hd : 0 ≤ d) (h : xCd d 65 [.ref 61, .int 2, .int 6] (xS I L z) (fun r τ => xEX k_X4_readCups 2 (xCd d) F 7 [some (.ref 61), none] (r.toList ++ []) τ b)) : h_X4_readCups_0 d F b I L z  :=
  (xgo b_X4_readCups_0 h)
theorem c_X4_readCups {d : Nat} {F : xQ} {I : xI} {L : xL} {z : Bool × Bool × Nat}  (h : h_X4_readCups_0 d F (0, 0) I L z ) : xCd (d + 1) 66 [.ref 61] (xS I L z) F :=
  xin_ (T := k_X4_readCups) (rt := 2) (ls := [some (.ref 61), none]) rfl rfl rfl rfl h
set_option maxRecDepth 100000 in
theorem g_X4_readCups_7 {d : Nat} {F : xQ} {b : Nat × Nat} {I : xI} {L : xL} {z : Bool × Bool × Nat} {s0 : Int32} (hd : 0 ≤ d) (h : (if s0 = (-1 : Int32) then F (some (.int 0)) (xS I L z) else xCd d 87 [.ref 10, .int s0] (xS I L z) (fun r τ => xEX k_X4_readCups 2 (xCd d) F 23 [some (.ref 61), some (.int s0)] (r.toList ++ []) τ b))) : h_X4_readCups_7 d F b I L z s0 :=
  (xgo b_X4_readCups_7 h)
set_option maxRecDepth 100000 in
theorem g_X4_readCups_23 {d : Nat} {F : xQ} {b : Nat × Nat} {I : xI} {L : xL} {z : Bool × Bool × Nat} {a1 : Int32} (hd : 0 ≤ d) (h : F (some (.int 1)) (xS I L z)) : h_X4_readCups_23 d F b I L z a1 :=
  (xgo b_X4_readCups_23 h)
def h_X4_readPour_0 (d : Nat) (F : xQ) (b : Nat × Nat) (I : xI) (L : xL) (z : Bool × Bool × Nat)  : Prop := xEX k_X4_readPour 2 (xCd d) F 0 [some (.ref 61), none, none] [] (xS I L z) b
def h_X4_readPour_2 (d : Nat) (F : xQ) (b : Nat × Nat) (I : xI) (L : xL) (z : Bool × Bool × Nat) (a1 : Int32) : Prop := xEX k_X4_readPour 2 (xCd d) F 2 [some (.ref 61), some (.int a1), none] [] (xS I L z) b
def h_X4_readPour_28 (d : Nat) (F : xQ) (b : Nat × Nat) (I : xI) (L : xL) (z : Bool × Bool × Nat) (a1 : Int32) (s0 : Int32) : Prop := xEX k_X4_readPour 2 (xCd d) F 28 [some (.ref 61), some (.int a1), none] [.int s0] (xS I L z) b
def h_X4_readPour_60 (d : Nat) (F : xQ) (b : Nat × Nat) (I : xI) (L : xL) (z : Bool × Bool × Nat) (a1 : Int32) : Prop := xEX k_X4_readPour 2 (xCd d) F 60 [some (.ref 61), some (.int a1), none] [] (xS I L z) b
set_option maxRecDepth 100000 in
theorem g_X4_readPour_0 {d : Nat} {F : xQ} {b : Nat × Nat} {I : xI} {L : xL} {z : Bool × Bool × Nat}  (hd : 0 ≤ d) (h : h_X4_readPour_2 d F b I L z 0) : h_X4_readPour_0 d F b I L z  :=
  (xgo b_X4_readPour_0 h)
theorem c_X4_readPour {d : Nat} {F : xQ} {I : xI} {L : xL} {z : Bool × Bool × Nat}  (h : h_X4_readPour_0 d F (0, 0) I L z ) : xCd (d + 1) 67 [.ref 61] (xS I L z) F :=
  xin_ (T := k_X4_readPour) (rt := 2) (ls := [some (.ref 61), none, none]) rfl rfl rfl rfl h
set_option maxRecDepth 100000 in
theorem g_X4_readPour_2 {d : Nat} {F : xQ} {b : Nat × Nat} {I : xI} {L : xL} {z : Bool × Bool × Nat} {a1 : Int32} (hd : 0 ≤ d) (h : (if a1 < (I 10 0) then (if a1 < 6 then xCd d 65 [.ref 61, .int 0, .int 5] (xS I L z) (fun r τ => xEX k_X4_readPour 2 (xCd d) F 28 [some (.ref 61), some (.int a1), none] (r.toList ++ []) τ b) else xCd d 88 [.ref 10, .ref 63] (xS I L z) (fun r τ => xEX k_X4_readPour 2 (xCd d) F 60 [some (.ref 61), some (.int a1), none] (r.toList ++ []) τ b)) else xCd d 88 [.ref 10, .ref 63] (xS I L z) (fun r τ => xEX k_X4_readPour 2 (xCd d) F 60 [some (.ref 61), some (.int a1), none] (r.toList ++ []) τ b))) : h_X4_readPour_2 d F b I L z a1 :=
  (xgo b_X4_readPour_2 h)
set_option maxRecDepth 100000 in
theorem g_X4_readPour_28 {d : Nat} {F : xQ} {b : Nat × Nat} {I : xI} {L : xL} {z : Bool × Bool × Nat} {a1 : Int32} {s0 : Int32} (hd : 0 ≤ d) (h : (if s0 = (-1 : Int32) then F (some (.int 0)) (xS I L z) else (if xin a1 (6) then h_X4_readPour_2 d F b (xw I 63 (Int32.toNatClampNeg a1) s0) L z (a1 + 1) else False))) : h_X4_readPour_28 d F b I L z a1 s0 :=
  (xgo b_X4_readPour_28 (xite (fun c1018 h1018 => h1018) (fun c1018 h1018 => (xite (fun c1019 h1019 => (xwk (ls := [some (.ref 61), some (.int (a1 + 1)), none]) ⟨⟨rfl, ⟨rfl, trivial⟩⟩, rfl⟩ h1019)) (fun c1019 h1019 => h1019) h1018)) h))
set_option maxRecDepth 100000 in
theorem g_X4_readPour_60 {d : Nat} {F : xQ} {b : Nat × Nat} {I : xI} {L : xL} {z : Bool × Bool × Nat} {a1 : Int32} (hd : 0 ≤ d) (h : F (some (.int 1)) (xS I L z)) : h_X4_readPour_60 d F b I L z a1 :=
  (xgo b_X4_readPour_60 h)
def h_X4_readLaw_0 (d : Nat) (F : xQ) (b : Nat × Nat) (I : xI) (L : xL) (z : Bool × Bool × Nat)  : Prop := xEX k_X4_readLaw 2 (xCd d) F 0 [some (.ref 61), none] [] (xS I L z) b
def h_X4_readLaw_6 (d : Nat) (F : xQ) (b : Nat × Nat) (I : xI) (L : xL) (z : Bool × Bool × Nat) (s0 : Int32) : Prop := xEX k_X4_readLaw 2 (xCd d) F 6 [some (.ref 61), none] [.int s0] (xS I L z) b
set_option maxRecDepth 100000 in
theorem g_X4_readLaw_0 {d : Nat} {F : xQ} {b : Nat × Nat} {I : xI} {L : xL} {z : Bool × Bool × Nat}  (hd : 1 ≤ d) (h : xCd d 65 [.ref 61, .int 0, .int 2] (xS I L z) (fun r τ => xEX k_X4_readLaw 2 (xCd d) F 6 [some (.ref 61), none] (r.toList ++ []) τ b)) : h_X4_readLaw_0 d F b I L z  :=
  (xgo b_X4_readLaw_0 h)
theorem c_X4_readLaw {d : Nat} {F : xQ} {I : xI} {L : xL} {z : Bool × Bool × Nat}  (h : h_X4_readLaw_0 d F (0, 0) I L z ) : xCd (d + 1) 68 [.ref 61] (xS I L z) F :=
  xin_ (T := k_X4_readLaw) (rt := 2) (ls := [some (.ref 61), none]) rfl rfl rfl rfl h
set_option maxRecDepth 100000 in
theorem g_X4_readLaw_6 {d : Nat} {F : xQ} {b : Nat × Nat} {I : xI} {L : xL} {z : Bool × Bool × Nat} {s0 : Int32} (hd : 1 ≤ d) (h : (if s0 = (-1 : Int32) then F (some (.int 0)) (xS I L z) else F (some (.int 1)) (xS (xw (xw I 10 1 s0) 10 5 1) L z))) : h_X4_readLaw_6 d F b I L z s0 :=
  (xgo b_X4_readLaw_6 (xite (fun c1020 h1020 => h1020) (fun c1020 h1020 => (xupD (c_X6_setLaw (xgo b_X4_readLaw_22 h1020)) (Nat.le_trans (by decide) hd))) h))
def h_X4_readSort_0 (d : Nat) (F : xQ) (b : Nat × Nat) (I : xI) (L : xL) (z : Bool × Bool × Nat)  : Prop := xEX k_X4_readSort 2 (xCd d) F 0 [some (.ref 61), none, none, none] [] (xS I L z) b
def h_X4_readSort_6 (d : Nat) (F : xQ) (b : Nat × Nat) (I : xI) (L : xL) (z : Bool × Bool × Nat) (s0 : Int32) : Prop := xEX k_X4_readSort 2 (xCd d) F 6 [some (.ref 61), none, none, none] [.int s0] (xS I L z) b
def h_X4_readSort_16 (d : Nat) (F : xQ) (b : Nat × Nat) (I : xI) (L : xL) (z : Bool × Bool × Nat) (a1 : Int32) (a2 : Int32) : Prop := xEX k_X4_readSort 2 (xCd d) F 16 [some (.ref 61), some (.int a1), some (.int a2), none] [] (xS I L z) b
def h_X4_readSort_28 (d : Nat) (F : xQ) (b : Nat × Nat) (I : xI) (L : xL) (z : Bool × Bool × Nat) (a1 : Int32) (a2 : Int32) (s0 : Int32) : Prop := xEX k_X4_readSort 2 (xCd d) F 28 [some (.ref 61), some (.int a1), some (.int a2), none] [.int s0] (xS I L z) b
set_option maxRecDepth 100000 in
theorem g_X4_readSort_0 {d : Nat} {F : xQ} {b : Nat × Nat} {I : xI} {L : xL} {z : Bool × Bool × Nat}  (hd : 1 ≤ d) (h : xCd d 65 [.ref 61, .int 0, .int 5] (xS I L z) (fun r τ => xEX k_X4_readSort 2 (xCd d) F 6 [some (.ref 61), none, none, none] (r.toList ++ []) τ b)) : h_X4_readSort_0 d F b I L z  :=
  (xgo b_X4_readSort_0 h)
theorem c_X4_readSort {d : Nat} {F : xQ} {I : xI} {L : xL} {z : Bool × Bool × Nat}  (h : h_X4_readSort_0 d F (0, 0) I L z ) : xCd (d + 1) 69 [.ref 61] (xS I L z) F :=
  xin_ (T := k_X4_readSort) (rt := 2) (ls := [some (.ref 61), none, none, none]) rfl rfl rfl rfl h
set_option maxRecDepth 100000 in
theorem g_X4_readSort_6 {d : Nat} {F : xQ} {b : Nat × Nat} {I : xI} {L : xL} {z : Bool × Bool × Nat} {s0 : Int32} (hd : 1 ≤ d) (h : (if s0 = (-1 : Int32) then F (some (.int 0)) (xS I L z) else h_X4_readSort_16 d F b I L z s0 0)) : h_X4_readSort_6 d F b I L z s0 :=
  (xgo b_X4_readSort_6 h)
set_option maxRecDepth 100000 in
theorem g_X4_readSort_16 {d : Nat} {F : xQ} {b : Nat × Nat} {I : xI} {L : xL} {z : Bool × Bool × Nat} {a1 : Int32} {a2 : Int32} (hd : 1 ≤ d) (h : (if a2 < 3 then xCd d 65 [.ref 61, .int 0, .int 9] (xS I L z) (fun r τ => xEX k_X4_readSort 2 (xCd d) F 28 [some (.ref 61), some (.int a1), some (.int a2), none] (r.toList ++ []) τ b) else F (some (.int 1)) (xS I L z))) : h_X4_readSort_16 d F b I L z a1 a2 :=
  (xgo b_X4_readSort_16 h)
set_option maxRecDepth 100000 in
theorem g_X4_readSort_28 {d : Nat} {F : xQ} {b : Nat × Nat} {I : xI} {L : xL} {z : Bool × Bool × Nat} {a1 : Int32} {a2 : Int32} {s0 : Int32} (hd : 1 ≤ d) (h : (if s0 = (-1 : Int32) then F (some (.int 0)) (xS I L z) else (if ((a1 * 3) + a2) < 0 then h_X4_readSort_16 d F b (xw I 10 6 1) L z a1 (a2 + 1) else (if ((a1 * 3) + a2) < 18 then (if xin ((a1 * 3) + a2) (18) then h_X4_readSort_16 d F b (xw (xw I 13 (Int32.toNatClampNeg ((a1 * 3) + a2)) s0) 10 6 1) L z a1 (a2 + 1) else False) else h_X4_readSort_16 d F b (xw I 10 6 1) L z a1 (a2 + 1))))) : h_X4_readSort_28 d F b I L z a1 a2 s0 :=
  (xgo b_X4_readSort_28 (xite (fun c1024 h1024 => h1024) (fun c1024 h1024 => (xupD (c_X6_setNumber (xite (fun c1025 h1025 => (xgo b_X4_readSort_46 (xwk (ls := [some (.ref 61), some (.int a1), some (.int (a2 + 1)), none]) ⟨⟨rfl, ⟨rfl, ⟨rfl, trivial⟩⟩⟩, rfl⟩ h1025))) (fun c1025 h1025 => (xite (fun c1026 h1026 => (xite (fun c1027 h1027 => (xgo b_X4_readSort_46 (xwk (ls := [some (.ref 61), some (.int a1), some (.int (a2 + 1)), none]) ⟨⟨rfl, ⟨rfl, ⟨rfl, trivial⟩⟩⟩, rfl⟩ h1027))) (fun c1027 h1027 => h1027) h1026)) (fun c1026 h1026 => (xgo b_X4_readSort_46 (xwk (ls := [some (.ref 61), some (.int a1), some (.int (a2 + 1)), none]) ⟨⟨rfl, ⟨rfl, ⟨rfl, trivial⟩⟩⟩, rfl⟩ h1026))) h1025)) h1024)) (Nat.le_trans (by decide) hd))) h))
def h_X4_readGuest_0 (d : Nat) (F : xQ) (b : Nat × Nat) (I : xI) (L : xL) (z : Bool × Bool × Nat)  : Prop := xEX k_X4_readGuest 2 (xCd d) F 0 [some (.ref 61), none, none, none] [] (xS I L z) b
def h_X4_readGuest_14 (d : Nat) (F : xQ) (b : Nat × Nat) (I : xI) (L : xL) (z : Bool × Bool × Nat) (s0 : Int32) : Prop := xEX k_X4_readGuest 2 (xCd d) F 14 [some (.ref 61), none, none, none] [.int s0] (xS I L z) b
def h_X4_readGuest_30 (d : Nat) (F : xQ) (b : Nat × Nat) (I : xI) (L : xL) (z : Bool × Bool × Nat) (a1 : Int32) (s0 : Int32) : Prop := xEX k_X4_readGuest 2 (xCd d) F 30 [some (.ref 61), some (.int a1), none, none] [.int s0] (xS I L z) b
def h_X4_readGuest_47 (d : Nat) (F : xQ) (b : Nat × Nat) (I : xI) (L : xL) (z : Bool × Bool × Nat) (a1 : Int32) (a2 : Int32) (s0 : Int32) : Prop := xEX k_X4_readGuest 2 (xCd d) F 47 [some (.ref 61), some (.int a1), some (.int a2), none] [.int s0] (xS I L z) b
set_option maxRecDepth 100000 in
theorem g_X4_readGuest_0 {d : Nat} {F : xQ} {b : Nat × Nat} {I : xI} {L : xL} {z : Bool × Bool × Nat}  (hd : 2 ≤ d) (h : xCd d 65 [.ref 61, .int 0, .int ((I 10 0) - 1)] (xS I L z) (fun r τ => xEX k_X4_readGuest 2 (xCd d) F 14 [some (.ref 61), none, none, none] (r.toList ++ []) τ b)) : h_X4_readGuest_0 d F b I L z  :=
  (xgo b_X4_readGuest_0 h)
theorem c_X4_readGuest {d : Nat} {F : xQ} {I : xI} {L : xL} {z : Bool × Bool × Nat}  (h : h_X4_readGuest_0 d F (0, 0) I L z ) : xCd (d + 1) 70 [.ref 61] (xS I L z) F :=
  xin_ (T := k_X4_readGuest) (rt := 2) (ls := [some (.ref 61), none, none, none]) rfl rfl rfl rfl h
set_option maxRecDepth 100000 in
theorem g_X4_readGuest_14 {d : Nat} {F : xQ} {b : Nat × Nat} {I : xI} {L : xL} {z : Bool × Bool × Nat} {s0 : Int32} (hd : 2 ≤ d) (h : (if s0 = (-1 : Int32) then h_X4_readGuest_30 d F b I L z s0 (-1 : Int32) else xCd d 65 [.ref 61, .int 0, .int 5] (xS I L z) (fun r τ => xEX k_X4_readGuest 2 (xCd d) F 30 [some (.ref 61), some (.int s0), none, none] (r.toList ++ []) τ b))) : h_X4_readGuest_14 d F b I L z s0 :=
  (xgo b_X4_readGuest_14 h)
set_option maxRecDepth 100000 in
theorem g_X4_readGuest_30 {d : Nat} {F : xQ} {b : Nat × Nat} {I : xI} {L : xL} {z : Bool × Bool × Nat} {a1 : Int32} {s0 : Int32} (hd : 2 ≤ d) (h : (if s0 = (-1 : Int32) then h_X4_readGuest_47 d F b I L z a1 s0 (-1 : Int32) else xCd d 65 [.ref 61, .int 0, .int 9] (xS I L z) (fun r τ => xEX k_X4_readGuest 2 (xCd d) F 47 [some (.ref 61), some (.int a1), some (.int s0), none] (r.toList ++ []) τ b))) : h_X4_readGuest_30 d F b I L z a1 s0 :=
  (xgo b_X4_readGuest_30 h)
set_option maxRecDepth 100000 in
theorem g_X4_readGuest_47 {d : Nat} {F : xQ} {b : Nat × Nat} {I : xI} {L : xL} {z : Bool × Bool × Nat} {a1 : Int32} {a2 : Int32} {s0 : Int32} (hd : 2 ≤ d) (h : (if s0 = (-1 : Int32) then F (some (.int 0)) (xS I L z) else (if p_X6_hasPlace I L a1 then (if xin a1 (6) then F (some (.int 1)) (xS (xw (xw I 14 (Int32.toNatClampNeg a1) a2) 15 (Int32.toNatClampNeg a1) s0) L z) else False) else F (some (.int 1)) (xS I L z)))) : h_X4_readGuest_47 d F b I L z a1 a2 s0 :=
  (xgo b_X4_readGuest_47 (xite (fun c1033 h1033 => h1033) (fun c1033 h1033 => (xupD (c_X6_setGuest (xite (fun c1034 h1034 => (xite (fun c1035 h1035 => (xitT c1035 (xgo b_X4_readGuest_65 h1035))) (fun c1035 h1035 => h1035) h1034)) (fun c1034 h1034 => (xgo b_X4_readGuest_65 h1034)) h1033)) (Nat.le_trans (by decide) hd))) h))
def h_X4_readSign_0 (d : Nat) (F : xQ) (b : Nat × Nat) (I : xI) (L : xL) (z : Bool × Bool × Nat)  : Prop := xEX k_X4_readSign 2 (xCd d) F 0 [some (.ref 61), none, none, none, none] [] (xS I L z) b
def h_X4_readSign_19 (d : Nat) (F : xQ) (b : Nat × Nat) (I : xI) (L : xL) (z : Bool × Bool × Nat) (a1 : Int32) (s0 : Int32) : Prop := xEX k_X4_readSign 2 (xCd d) F 19 [some (.ref 61), some (.int a1), none, none, none] [.int s0] (xS I L z) b
def h_X4_readSign_35 (d : Nat) (F : xQ) (b : Nat × Nat) (I : xI) (L : xL) (z : Bool × Bool × Nat) (a1 : Int32) (a2 : Int32) (s0 : Int32) : Prop := xEX k_X4_readSign 2 (xCd d) F 35 [some (.ref 61), some (.int a1), some (.int a2), none, none] [.int s0] (xS I L z) b
def h_X4_readSign_52 (d : Nat) (F : xQ) (b : Nat × Nat) (I : xI) (L : xL) (z : Bool × Bool × Nat) (a1 : Int32) (a2 : Int32) (a3 : Int32) (s0 : Int32) : Prop := xEX k_X4_readSign 2 (xCd d) F 52 [some (.ref 61), some (.int a1), some (.int a2), some (.int a3), none] [.int s0] (xS I L z) b
def h_X4_readSign_69 (d : Nat) (F : xQ) (b : Nat × Nat) (I : xI) (L : xL) (z : Bool × Bool × Nat) (a1 : Int32) (a2 : Int32) (a3 : Int32) (a4 : Int32) : Prop := xEX k_X4_readSign 2 (xCd d) F 69 [some (.ref 61), some (.int a1), some (.int a2), some (.int a3), some (.int a4)] [] (xS I L z) b
def h_X4_readSign_80 (d : Nat) (F : xQ) (b : Nat × Nat) (I : xI) (L : xL) (z : Bool × Bool × Nat) (a1 : Int32) (a2 : Int32) (a3 : Int32) (a4 : Int32) (s0 : Int32) : Prop := xEX k_X4_readSign 2 (xCd d) F 80 [some (.ref 61), some (.int a1), some (.int a2), some (.int a3), some (.int a4)] [.int s0] (xS I L z) b
def h_X4_readSign_103 (d : Nat) (F : xQ) (b : Nat × Nat) (I : xI) (L : xL) (z : Bool × Bool × Nat) (a1 : Int32) (a2 : Int32) (a3 : Int32) (a4 : Int32) (s0 : Int32) : Prop := xEX k_X4_readSign 2 (xCd d) F 103 [some (.ref 61), some (.int a1), some (.int a2), some (.int a3), some (.int a4)] [.int s0] (xS I L z) b
set_option maxRecDepth 100000 in
theorem g_X4_readSign_0 {d : Nat} {F : xQ} {b : Nat × Nat} {I : xI} {L : xL} {z : Bool × Bool × Nat}  (hd : 1 ≤ d) (h : xCd d 65 [.ref 61, .int 0, .int ((I 10 0) - 1)] (xS I L z) (fun r τ => xEX k_X4_readSign 2 (xCd d) F 19 [some (.ref 61), some (.int (I 61 8)), none, none, none] (r.toList ++ []) τ b)) : h_X4_readSign_0 d F b I L z  :=
  (xgo b_X4_readSign_0 h)
theorem c_X4_readSign {d : Nat} {F : xQ} {I : xI} {L : xL} {z : Bool × Bool × Nat}  (h : h_X4_readSign_0 d F (0, 0) I L z ) : xCd (d + 1) 71 [.ref 61] (xS I L z) F :=
  xin_ (T := k_X4_readSign) (rt := 2) (ls := [some (.ref 61), none, none, none, none]) rfl rfl rfl rfl h
set_option maxRecDepth 100000 in
theorem g_X4_readSign_19 {d : Nat} {F : xQ} {b : Nat × Nat} {I : xI} {L : xL} {z : Bool × Bool × Nat} {a1 : Int32} {s0 : Int32} (hd : 1 ≤ d) (h : (if s0 = (-1 : Int32) then h_X4_readSign_35 d F b I L z a1 s0 (-1 : Int32) else xCd d 65 [.ref 61, .int 0, .int 3] (xS I L z) (fun r τ => xEX k_X4_readSign 2 (xCd d) F 35 [some (.ref 61), some (.int a1), some (.int s0), none, none] (r.toList ++ []) τ b))) : h_X4_readSign_19 d F b I L z a1 s0 :=
  (xgo b_X4_readSign_19 h)
set_option maxRecDepth 100000 in
theorem g_X4_readSign_35 {d : Nat} {F : xQ} {b : Nat × Nat} {I : xI} {L : xL} {z : Bool × Bool × Nat} {a1 : Int32} {a2 : Int32} {s0 : Int32} (hd : 1 ≤ d) (h : (if s0 = (-1 : Int32) then h_X4_readSign_52 d F b I L z a1 a2 s0 (-1 : Int32) else xCd d 65 [.ref 61, .int 0, .int 9] (xS I L z) (fun r τ => xEX k_X4_readSign 2 (xCd d) F 52 [some (.ref 61), some (.int a1), some (.int a2), some (.int s0), none] (r.toList ++ []) τ b))) : h_X4_readSign_35 d F b I L z a1 a2 s0 :=
  (xgo b_X4_readSign_35 h)
set_option maxRecDepth 100000 in
theorem g_X4_readSign_52 {d : Nat} {F : xQ} {b : Nat × Nat} {I : xI} {L : xL} {z : Bool × Bool × Nat} {a1 : Int32} {a2 : Int32} {a3 : Int32} {s0 : Int32} (hd : 1 ≤ d) (h : (if s0 = (-1 : Int32) then F (some (.int 0)) (xS I L z) else xCd d 114 [.ref 37] (xS I L z) (fun r τ => xEX k_X4_readSign 2 (xCd d) F 69 [some (.ref 61), some (.int a1), some (.int a2), some (.int a3), some (.int s0)] (r.toList ++ []) τ b))) : h_X4_readSign_52 d F b I L z a1 a2 a3 s0 :=
  (xgo b_X4_readSign_52 h)
set_option maxRecDepth 100000 in
theorem g_X4_readSign_69 {d : Nat} {F : xQ} {b : Nat × Nat} {I : xI} {L : xL} {z : Bool × Bool × Nat} {a1 : Int32} {a2 : Int32} {a3 : Int32} {a4 : Int32} (hd : 1 ≤ d) (h : xCd d 126 [.ref 37, .int a2, .int a3, .int a4] (xS I L z) (fun r τ => xEX k_X4_readSign 2 (xCd d) F 80 [some (.ref 61), some (.int a1), some (.int a2), some (.int a3), some (.int a4)] (r.toList ++ []) τ b)) : h_X4_readSign_69 d F b I L z a1 a2 a3 a4 :=
  (xgo b_X4_readSign_69 h)
set_option maxRecDepth 100000 in
theorem g_X4_readSign_80 {d : Nat} {F : xQ} {b : Nat × Nat} {I : xI} {L : xL} {z : Bool × Bool × Nat} {a1 : Int32} {a2 : Int32} {a3 : Int32} {a4 : Int32} {s0 : Int32} (hd : 1 ≤ d) (h : (if s0 = 0 then (bif xbool 0 then F (some (.int 0)) (xS (xw I 61 1 (I 61 8)) L z) else False) else xCd d 100 [.ref 10, .int a2, .int a3, .int a4] (xS I L z) (fun r τ => xEX k_X4_readSign 2 (xCd d) F 103 [some (.ref 61), some (.int a1), some (.int a2), some (.int a3), some (.int a4)] (r.toList ++ []) τ b))) : h_X4_readSign_80 d F b I L z a1 a2 a3 a4 s0 :=
  (xgo b_X4_readSign_80 (xite (fun c1052 h1052 => (xupD (c_X4_failAt (xgo b_X4_readSign_91 h1052)) (Nat.le_trans (by decide) hd))) (fun c1052 h1052 => h1052) h))
set_option maxRecDepth 100000 in
theorem g_X4_readSign_103 {d : Nat} {F : xQ} {b : Nat × Nat} {I : xI} {L : xL} {z : Bool × Bool × Nat} {a1 : Int32} {a2 : Int32} {a3 : Int32} {a4 : Int32} {s0 : Int32} (hd : 1 ≤ d) (h : (if s0 = 0 then F (some (.int 0)) (xS (xw I 61 1 a1) L z) else F (some (.int 1)) (xS I L z))) : h_X4_readSign_103 d F b I L z a1 a2 a3 a4 s0 :=
  (xgo b_X4_readSign_103 (xite (fun c1053 h1053 => (xupD (c_X4_failAt (xgo b_X4_readSign_111 (xitT (by decide) h1053))) (Nat.le_trans (by decide) hd))) (fun c1053 h1053 => h1053) h))
def h_X5_isUnder_0 (d : Nat) (F : xQ) (b : Nat × Nat) (I : xI) (L : xL) (z : Bool × Bool × Nat) (a0 : Int32) (a1 : Int32) : Prop := xEX k_X5_isUnder 2 (xCd d) F 0 [some (.int a0), some (.int a1), none, none] [] (xS I L z) b
def h_X5_isUnder_4 (d : Nat) (F : xQ) (b : Nat × Nat) (I : xI) (L : xL) (z : Bool × Bool × Nat) (a0 : Int32) (a1 : Int32) (a2 : Int32) (a3 : Int32) : Prop := xEX k_X5_isUnder 2 (xCd d) F 4 [some (.int a0), some (.int a1), some (.int a2), some (.int a3)] [] (xS I L z) b
set_option maxRecDepth 100000 in
theorem g_X5_isUnder_0 {d : Nat} {F : xQ} {b : Nat × Nat} {I : xI} {L : xL} {z : Bool × Bool × Nat} {a0 : Int32} {a1 : Int32} (hd : 1 ≤ d) (h : h_X5_isUnder_4 d F b I L z a0 a1 a0 0) : h_X5_isUnder_0 d F b I L z a0 a1 :=
  (xgo b_X5_isUnder_0 h)
theorem c_X5_isUnder {d : Nat} {F : xQ} {I : xI} {L : xL} {z : Bool × Bool × Nat} {a0 : Int32} {a1 : Int32} (h : h_X5_isUnder_0 d F (0, 0) I L z a0 a1) : xCd (d + 1) 74 [.int a0, .int a1] (xS I L z) F :=
  xin_ (T := k_X5_isUnder) (rt := 2) (ls := [some (.int a0), some (.int a1), none, none]) rfl rfl rfl rfl h
set_option maxRecDepth 100000 in
theorem g_X5_isUnder_4 {d : Nat} {F : xQ} {b : Nat × Nat} {I : xI} {L : xL} {z : Bool × Bool × Nat} {a0 : Int32} {a1 : Int32} {a2 : Int32} {a3 : Int32} (hd : 1 ≤ d) (h : (if a3 < 6 then (if p_X5_isKind I L a2 then (if a2 = a1 then F (some (.int 1)) (xS I L z) else (if xin a2 (6) then h_X5_isUnder_4 d F b I L z a0 a1 (I 1 (Int32.toNatClampNeg a2)) (a3 + 1) else False)) else F (some (.int 0)) (xS I L z)) else F (some (.int 0)) (xS I L z))) : h_X5_isUnder_4 d F b I L z a0 a1 a2 a3 :=
  (xgo b_X5_isUnder_4 (xite (fun c1054 h1054 => (xuse1 s_X5_isKind (Nat.le_trans (by decide) hd) (xgo b_X5_isUnder_16 (xiteB (fun c1055 h1055 => h1055) (fun c1055 h1055 => h1055) h1054)))) (fun c1054 h1054 => h1054) h))
def h_X5_sayingOf_0 (d : Nat) (F : xQ) (b : Nat × Nat) (I : xI) (L : xL) (z : Bool × Bool × Nat) (a1 : Int32) : Prop := xEX k_X5_sayingOf 1 (xCd d) F 0 [some (.ref 56), some (.int a1)] [] (xS I L z) b
def h_X5_sayingOf_74 (d : Nat) (F : xQ) (b : Nat × Nat) (I : xI) (L : xL) (z : Bool × Bool × Nat) (a1 : Int32) (s0 : Int32) : Prop := xEX k_X5_sayingOf 1 (xCd d) F 74 [some (.ref 56), some (.int a1)] [.int s0] (xS I L z) b
def h_X5_sayingOf_79 (d : Nat) (F : xQ) (b : Nat × Nat) (I : xI) (L : xL) (z : Bool × Bool × Nat) (a1 : Int32) (s0 : Int32) : Prop := xEX k_X5_sayingOf 1 (xCd d) F 79 [some (.ref 56), some (.int a1)] [.int s0] (xS I L z) b
def h_X5_sayingOf_85 (d : Nat) (F : xQ) (b : Nat × Nat) (I : xI) (L : xL) (z : Bool × Bool × Nat) (a1 : Int32) (s0 : Int32) : Prop := xEX k_X5_sayingOf 1 (xCd d) F 85 [some (.ref 56), some (.int a1)] [.int s0] (xS I L z) b
def h_X5_sayingOf_95 (d : Nat) (F : xQ) (b : Nat × Nat) (I : xI) (L : xL) (z : Bool × Bool × Nat) (a1 : Int32) (s0 : Int32) : Prop := xEX k_X5_sayingOf 1 (xCd d) F 95 [some (.ref 56), some (.int a1)] [.int s0] (xS I L z) b
def h_X5_sayingOf_100 (d : Nat) (F : xQ) (b : Nat × Nat) (I : xI) (L : xL) (z : Bool × Bool × Nat) (a1 : Int32) (s0 : Int32) : Prop := xEX k_X5_sayingOf 1 (xCd d) F 100 [some (.ref 56), some (.int a1)] [.int s0] (xS I L z) b
def h_X5_sayingOf_105 (d : Nat) (F : xQ) (b : Nat × Nat) (I : xI) (L : xL) (z : Bool × Bool × Nat) (a1 : Int32) (s0 : Int32) : Prop := xEX k_X5_sayingOf 1 (xCd d) F 105 [some (.ref 56), some (.int a1)] [.int s0] (xS I L z) b
set_option maxRecDepth 100000 in
theorem g_X5_sayingOf_0 {d : Nat} {F : xQ} {b : Nat × Nat} {I : xI} {L : xL} {z : Bool × Bool × Nat} {a1 : Int32} (hd : 2 ≤ d) (h : (if 1 < (I 37 1) then (if (f_X6_kindOf I L a1) = 0 then xCd d 76 [.ref 56, .int ((f_X6_tellerNumberOf I L a1) - (f_X6_tellerNumberOf I L a1) / 4 * 4)] (xS I L z) (fun r τ => xEX k_X5_sayingOf 1 (xCd d) F 74 [some (.ref 56), some (.int a1)] (r.toList ++ []) τ b) else (if (f_X6_kindOf I L a1) = 1 then xCd d 77 [.ref 56] (xS I L z) (fun r τ => xEX k_X5_sayingOf 1 (xCd d) F 79 [some (.ref 56), some (.int a1)] (r.toList ++ []) τ b) else (if (f_X6_kindOf I L a1) = 2 then xCd d 76 [.ref 56, .int 3] (xS I L z) (fun r τ => xEX k_X5_sayingOf 1 (xCd d) F 85 [some (.ref 56), some (.int a1)] (r.toList ++ []) τ b) else (if (f_X6_kindOf I L a1) = 3 then xCd d 20 [.ref 43, .int 7] (xS I L z) (fun r τ => xEX k_X5_sayingOf 1 (xCd d) F 95 [some (.ref 56), some (.int a1)] (r.toList ++ []) τ b) else (if (f_X6_kindOf I L a1) = 4 then xCd d 78 [.ref 56] (xS I L z) (fun r τ => xEX k_X5_sayingOf 1 (xCd d) F 100 [some (.ref 56), some (.int a1)] (r.toList ++ []) τ b) else (if (f_X6_kindOf I L a1) = 5 then xCd d 79 [.ref 56] (xS I L z) (fun r τ => xEX k_X5_sayingOf 1 (xCd d) F 105 [some (.ref 56), some (.int a1)] (r.toList ++ []) τ b) else F (some (.int (-1 : Int32))) (xS I L z))))))) else F (some (.int (-1 : Int32))) (xS I L z))) : h_X5_sayingOf_0 d F b I L z a1 :=
  (xgo b_X5_sayingOf_0 (xite (fun c1065 h1065 => (xuse1 s_X6_kindOf (Nat.le_trans (by decide) hd) (xgo b_X5_sayingOf_21 (xite (fun c1066 h1066 => (xuse1 s_X6_tellerNumberOf (Nat.le_trans (by decide) hd) (xgo b_X5_sayingOf_69 h1066))) (fun c1066 h1066 => h1066) h1065)))) (fun c1065 h1065 => h1065) h))
theorem c_X5_sayingOf {d : Nat} {F : xQ} {I : xI} {L : xL} {z : Bool × Bool × Nat} {a1 : Int32} (h : h_X5_sayingOf_0 d F (0, 0) I L z a1) : xCd (d + 1) 75 [.ref 56, .int a1] (xS I L z) F :=
  xin_ (T := k_X5_sayingOf) (rt := 1) (ls := [some (.ref 56), some (.int a1)]) rfl rfl rfl rfl h
set_option maxRecDepth 100000 in
theorem g_X5_sayingOf_74 {d : Nat} {F : xQ} {b : Nat × Nat} {I : xI} {L : xL} {z : Bool × Bool × Nat} {a1 : Int32} {s0 : Int32} (hd : 2 ≤ d) (h : F (some (.int s0)) (xS I L z)) : h_X5_sayingOf_74 d F b I L z a1 s0 :=
  (xgo b_X5_sayingOf_74 h)
set_option maxRecDepth 100000 in
theorem g_X5_sayingOf_79 {d : Nat} {F : xQ} {b : Nat × Nat} {I : xI} {L : xL} {z : Bool × Bool × Nat} {a1 : Int32} {s0 : Int32} (hd : 2 ≤ d) (h : F (some (.int s0)) (xS I L z)) : h_X5_sayingOf_79 d F b I L z a1 s0 :=
  (xgo b_X5_sayingOf_79 h)
set_option maxRecDepth 100000 in
theorem g_X5_sayingOf_85 {d : Nat} {F : xQ} {b : Nat × Nat} {I : xI} {L : xL} {z : Bool × Bool × Nat} {a1 : Int32} {s0 : Int32} (hd : 2 ≤ d) (h : F (some (.int s0)) (xS I L z)) : h_X5_sayingOf_85 d F b I L z a1 s0 :=
  (xgo b_X5_sayingOf_85 h)
set_option maxRecDepth 100000 in
theorem g_X5_sayingOf_95 {d : Nat} {F : xQ} {b : Nat × Nat} {I : xI} {L : xL} {z : Bool × Bool × Nat} {a1 : Int32} {s0 : Int32} (hd : 2 ≤ d) (h : F (some (.int s0)) (xS I L z)) : h_X5_sayingOf_95 d F b I L z a1 s0 :=
  (xgo b_X5_sayingOf_95 h)
set_option maxRecDepth 100000 in
theorem g_X5_sayingOf_100 {d : Nat} {F : xQ} {b : Nat × Nat} {I : xI} {L : xL} {z : Bool × Bool × Nat} {a1 : Int32} {s0 : Int32} (hd : 2 ≤ d) (h : F (some (.int s0)) (xS I L z)) : h_X5_sayingOf_100 d F b I L z a1 s0 :=
  (xgo b_X5_sayingOf_100 h)
set_option maxRecDepth 100000 in
theorem g_X5_sayingOf_105 {d : Nat} {F : xQ} {b : Nat × Nat} {I : xI} {L : xL} {z : Bool × Bool × Nat} {a1 : Int32} {s0 : Int32} (hd : 2 ≤ d) (h : F (some (.int s0)) (xS I L z)) : h_X5_sayingOf_105 d F b I L z a1 s0 :=
  (xgo b_X5_sayingOf_105 h)
def h_X5_firstUnknown_0 (d : Nat) (F : xQ) (b : Nat × Nat) (I : xI) (L : xL) (z : Bool × Bool × Nat) (a1 : Int32) : Prop := xEX k_X5_firstUnknown 1 (xCd d) F 0 [some (.ref 56), some (.int a1), none] [] (xS I L z) b
def h_X5_firstUnknown_2 (d : Nat) (F : xQ) (b : Nat × Nat) (I : xI) (L : xL) (z : Bool × Bool × Nat) (a1 : Int32) (a2 : Int32) : Prop := xEX k_X5_firstUnknown 1 (xCd d) F 2 [some (.ref 56), some (.int a1), some (.int a2)] [] (xS I L z) b
def h_X5_firstUnknown_21 (d : Nat) (F : xQ) (b : Nat × Nat) (I : xI) (L : xL) (z : Bool × Bool × Nat) (a1 : Int32) (a2 : Int32) (s0 : Int32) : Prop := xEX k_X5_firstUnknown 1 (xCd d) F 21 [some (.ref 56), some (.int a1), some (.int a2)] [.int s0] (xS I L z) b
set_option maxRecDepth 100000 in
theorem g_X5_firstUnknown_0 {d : Nat} {F : xQ} {b : Nat × Nat} {I : xI} {L : xL} {z : Bool × Bool × Nat} {a1 : Int32} (hd : 0 ≤ d) (h : h_X5_firstUnknown_2 d F b I L z a1 0) : h_X5_firstUnknown_0 d F b I L z a1 :=
  (xgo b_X5_firstUnknown_0 h)
theorem c_X5_firstUnknown {d : Nat} {F : xQ} {I : xI} {L : xL} {z : Bool × Bool × Nat} {a1 : Int32} (h : h_X5_firstUnknown_0 d F (0, 0) I L z a1) : xCd (d + 1) 76 [.ref 56, .int a1] (xS I L z) F :=
  xin_ (T := k_X5_firstUnknown) (rt := 1) (ls := [some (.ref 56), some (.int a1), none]) rfl rfl rfl rfl h
set_option maxRecDepth 100000 in
theorem g_X5_firstUnknown_2 {d : Nat} {F : xQ} {b : Nat × Nat} {I : xI} {L : xL} {z : Bool × Bool × Nat} {a1 : Int32} {a2 : Int32} (hd : 0 ≤ d) (h : (if a2 < (I 10 0) then xCd d 129 [.ref 37, .int a2] (xS I L z) (fun r τ => xEX k_X5_firstUnknown 1 (xCd d) F 21 [some (.ref 56), some (.int a1), some (.int a2)] (r.toList ++ []) τ b) else F (some (.int (-1 : Int32))) (xS I L z))) : h_X5_firstUnknown_2 d F b I L z a1 a2 :=
  (xgo b_X5_firstUnknown_2 h)
set_option maxRecDepth 100000 in
theorem g_X5_firstUnknown_21 {d : Nat} {F : xQ} {b : Nat × Nat} {I : xI} {L : xL} {z : Bool × Bool × Nat} {a1 : Int32} {a2 : Int32} {s0 : Int32} (hd : 0 ≤ d) (h : (if s0 = 0 then F (some (.int ((10 * a2) + a1))) (xS I L z) else h_X5_firstUnknown_2 d F b I L z a1 (a2 + 1))) : h_X5_firstUnknown_21 d F b I L z a1 a2 s0 :=
  (xgo b_X5_firstUnknown_21 h)
def h_X5_mostShades_0 (d : Nat) (F : xQ) (b : Nat × Nat) (I : xI) (L : xL) (z : Bool × Bool × Nat)  : Prop := xEX k_X5_mostShades 1 (xCd d) F 0 [some (.ref 56), none, none, none, none] [] (xS I L z) b
def h_X5_mostShades_6 (d : Nat) (F : xQ) (b : Nat × Nat) (I : xI) (L : xL) (z : Bool × Bool × Nat) (a1 : Int32) (a2 : Int32) (a3 : Int32) : Prop := xEX k_X5_mostShades 1 (xCd d) F 6 [some (.ref 56), some (.int a1), some (.int a2), some (.int a3), none] [] (xS I L z) b
def h_X5_mostShades_26 (d : Nat) (F : xQ) (b : Nat × Nat) (I : xI) (L : xL) (z : Bool × Bool × Nat) (a1 : Int32) (a2 : Int32) (a3 : Int32) (s0 : Int32) : Prop := xEX k_X5_mostShades 1 (xCd d) F 26 [some (.ref 56), some (.int a1), some (.int a2), some (.int a3), none] [.int s0] (xS I L z) b
set_option maxRecDepth 100000 in
theorem g_X5_mostShades_0 {d : Nat} {F : xQ} {b : Nat × Nat} {I : xI} {L : xL} {z : Bool × Bool × Nat}  (hd : 0 ≤ d) (h : h_X5_mostShades_6 d F b I L z (-1 : Int32) 1 0) : h_X5_mostShades_0 d F b I L z  :=
  (xgo b_X5_mostShades_0 h)
theorem c_X5_mostShades {d : Nat} {F : xQ} {I : xI} {L : xL} {z : Bool × Bool × Nat}  (h : h_X5_mostShades_0 d F (0, 0) I L z ) : xCd (d + 1) 77 [.ref 56] (xS I L z) F :=
  xin_ (T := k_X5_mostShades) (rt := 1) (ls := [some (.ref 56), none, none, none, none]) rfl rfl rfl rfl h
set_option maxRecDepth 100000 in
theorem g_X5_mostShades_6 {d : Nat} {F : xQ} {b : Nat × Nat} {I : xI} {L : xL} {z : Bool × Bool × Nat} {a1 : Int32} {a2 : Int32} {a3 : Int32} (hd : 0 ≤ d) (h : (if a3 < (I 10 0) then xCd d 18 [.ref 43, .int a3, .int 0] (xS I L z) (fun r τ => xEX k_X5_mostShades 1 (xCd d) F 26 [some (.ref 56), some (.int a1), some (.int a2), some (.int a3), none] (r.toList ++ []) τ b) else F (some (.int a1)) (xS I L z))) : h_X5_mostShades_6 d F b I L z a1 a2 a3 :=
  (xgo b_X5_mostShades_6 h)
set_option maxRecDepth 100000 in
theorem g_X5_mostShades_26 {d : Nat} {F : xQ} {b : Nat × Nat} {I : xI} {L : xL} {z : Bool × Bool × Nat} {a1 : Int32} {a2 : Int32} {a3 : Int32} {s0 : Int32} (hd : 0 ≤ d) (h : (if a2 < s0 then h_X5_mostShades_6 d F b I L z ((10 * a3) + 0) s0 (a3 + 1) else h_X5_mostShades_6 d F b I L z a1 a2 (a3 + 1))) : h_X5_mostShades_26 d F b I L z a1 a2 a3 s0 :=
  (xgo b_X5_mostShades_26 (xite (fun c1077 h1077 => (xwk (ls := [some (.ref 56), some (.int ((10 * a3) + 0)), some (.int s0), some (.int (a3 + 1)), none]) ⟨⟨rfl, ⟨rfl, ⟨rfl, ⟨rfl, trivial⟩⟩⟩⟩, rfl⟩ h1077)) (fun c1077 h1077 => (xwk (ls := [some (.ref 56), some (.int a1), some (.int a2), some (.int (a3 + 1)), none]) ⟨⟨rfl, ⟨rfl, ⟨rfl, ⟨rfl, trivial⟩⟩⟩⟩, rfl⟩ h1077)) h))
def h_X5_lookOrSip_0 (d : Nat) (F : xQ) (b : Nat × Nat) (I : xI) (L : xL) (z : Bool × Bool × Nat)  : Prop := xEX k_X5_lookOrSip 1 (xCd d) F 0 [some (.ref 56), none] [] (xS I L z) b
def h_X5_lookOrSip_9 (d : Nat) (F : xQ) (b : Nat × Nat) (I : xI) (L : xL) (z : Bool × Bool × Nat) (s0 : Int32) : Prop := xEX k_X5_lookOrSip 1 (xCd d) F 9 [some (.ref 56), none] [.int s0] (xS I L z) b
def h_X5_lookOrSip_25 (d : Nat) (F : xQ) (b : Nat × Nat) (I : xI) (L : xL) (z : Bool × Bool × Nat) (a1 : Int32) (s0 : Int32) : Prop := xEX k_X5_lookOrSip 1 (xCd d) F 25 [some (.ref 56), some (.int a1)] [.int s0] (xS I L z) b
def h_X5_lookOrSip_46 (d : Nat) (F : xQ) (b : Nat × Nat) (I : xI) (L : xL) (z : Bool × Bool × Nat) (a1 : Int32) (s0 : Int32) : Prop := xEX k_X5_lookOrSip 1 (xCd d) F 46 [some (.ref 56), some (.int a1)] [.int s0] (xS I L z) b
set_option maxRecDepth 100000 in
theorem g_X5_lookOrSip_0 {d : Nat} {F : xQ} {b : Nat × Nat} {I : xI} {L : xL} {z : Bool × Bool × Nat}  (hd : 0 ≤ d) (h : xCd d 20 [.ref 43, .int 7] (xS I L z) (fun r τ => xEX k_X5_lookOrSip 1 (xCd d) F 9 [some (.ref 56), none] (r.toList ++ []) τ b)) : h_X5_lookOrSip_0 d F b I L z  :=
  (xgo b_X5_lookOrSip_0 h)
theorem c_X5_lookOrSip {d : Nat} {F : xQ} {I : xI} {L : xL} {z : Bool × Bool × Nat}  (h : h_X5_lookOrSip_0 d F (0, 0) I L z ) : xCd (d + 1) 78 [.ref 56] (xS I L z) F :=
  xin_ (T := k_X5_lookOrSip) (rt := 1) (ls := [some (.ref 56), none]) rfl rfl rfl rfl h
set_option maxRecDepth 100000 in
theorem g_X5_lookOrSip_9 {d : Nat} {F : xQ} {b : Nat × Nat} {I : xI} {L : xL} {z : Bool × Bool × Nat} {s0 : Int32} (hd : 0 ≤ d) (h : xCd d 19 [.ref 43, .int (s0 / 10), .int (s0 - s0 / 10 * 10)] (xS I L z) (fun r τ => xEX k_X5_lookOrSip 1 (xCd d) F 25 [some (.ref 56), some (.int s0)] (r.toList ++ []) τ b)) : h_X5_lookOrSip_9 d F b I L z s0 :=
  (xgo b_X5_lookOrSip_9 h)
set_option maxRecDepth 100000 in
theorem g_X5_lookOrSip_25 {d : Nat} {F : xQ} {b : Nat × Nat} {I : xI} {L : xL} {z : Bool × Bool × Nat} {a1 : Int32} {s0 : Int32} (hd : 0 ≤ d) (h : (if s0 < (I 37 1) then F (some (.int a1)) (xS I L z) else xCd d 20 [.ref 43, .int 8] (xS I L z) (fun r τ => xEX k_X5_lookOrSip 1 (xCd d) F 46 [some (.ref 56), some (.int a1)] (r.toList ++ []) τ b))) : h_X5_lookOrSip_25 d F b I L z a1 s0 :=
  (xgo b_X5_lookOrSip_25 h)
set_option maxRecDepth 100000 in
theorem g_X5_lookOrSip_46 {d : Nat} {F : xQ} {b : Nat × Nat} {I : xI} {L : xL} {z : Bool × Bool × Nat} {a1 : Int32} {s0 : Int32} (hd : 0 ≤ d) (h : F (some (.int s0)) (xS I L z)) : h_X5_lookOrSip_46 d F b I L z a1 s0 :=
  (xgo b_X5_lookOrSip_46 h)
def h_X5_sipOfWhoMindsMost_0 (d : Nat) (F : xQ) (b : Nat × Nat) (I : xI) (L : xL) (z : Bool × Bool × Nat)  : Prop := xEX k_X5_sipOfWhoMindsMost 1 (xCd d) F 0 [some (.ref 56), none] [] (xS I L z) b
def h_X5_sipOfWhoMindsMost_7 (d : Nat) (F : xQ) (b : Nat × Nat) (I : xI) (L : xL) (z : Bool × Bool × Nat)  : Prop := xEX k_X5_sipOfWhoMindsMost 1 (xCd d) F 7 [some (.ref 56), none] [] (xS I L z) b
def h_X5_sipOfWhoMindsMost_18 (d : Nat) (F : xQ) (b : Nat × Nat) (I : xI) (L : xL) (z : Bool × Bool × Nat) (s0 : Int32) : Prop := xEX k_X5_sipOfWhoMindsMost 1 (xCd d) F 18 [some (.ref 56), none] [.int s0, .ref 50] (xS I L z) b
def h_X5_sipOfWhoMindsMost_30 (d : Nat) (F : xQ) (b : Nat × Nat) (I : xI) (L : xL) (z : Bool × Bool × Nat) (a1 : Int32) (s0 : Int32) : Prop := xEX k_X5_sipOfWhoMindsMost 1 (xCd d) F 30 [some (.ref 56), some (.int a1)] [.int s0] (xS I L z) b
def h_X5_sipOfWhoMindsMost_38 (d : Nat) (F : xQ) (b : Nat × Nat) (I : xI) (L : xL) (z : Bool × Bool × Nat) (a1 : Int32) (s0 : Int32) : Prop := xEX k_X5_sipOfWhoMindsMost 1 (xCd d) F 38 [some (.ref 56), some (.int a1)] [.int s0] (xS I L z) b
set_option maxRecDepth 100000 in
theorem g_X5_sipOfWhoMindsMost_0 {d : Nat} {F : xQ} {b : Nat × Nat} {I : xI} {L : xL} {z : Bool × Bool × Nat}  (hd : 1 ≤ d) (h : xCd d 10 [.ref 50] (xS I L z) (fun r τ => xEX k_X5_sipOfWhoMindsMost 1 (xCd d) F 7 [some (.ref 56), none] (r.toList ++ []) τ b)) : h_X5_sipOfWhoMindsMost_0 d F b I L z  :=
  (xgo b_X5_sipOfWhoMindsMost_0 h)
theorem c_X5_sipOfWhoMindsMost {d : Nat} {F : xQ} {I : xI} {L : xL} {z : Bool × Bool × Nat}  (h : h_X5_sipOfWhoMindsMost_0 d F (0, 0) I L z ) : xCd (d + 1) 79 [.ref 56] (xS I L z) F :=
  xin_ (T := k_X5_sipOfWhoMindsMost) (rt := 1) (ls := [some (.ref 56), none]) rfl rfl rfl rfl h
set_option maxRecDepth 100000 in
theorem g_X5_sipOfWhoMindsMost_7 {d : Nat} {F : xQ} {b : Nat × Nat} {I : xI} {L : xL} {z : Bool × Bool × Nat}  (hd : 1 ≤ d) (h : xCd d 16 [.ref 50] (xS I L z) (fun r τ => xEX k_X5_sipOfWhoMindsMost 1 (xCd d) F 18 [some (.ref 56), none] (r.toList ++ [.ref 50]) τ b)) : h_X5_sipOfWhoMindsMost_7 d F b I L z  :=
  (xgo b_X5_sipOfWhoMindsMost_7 h)
set_option maxRecDepth 100000 in
theorem g_X5_sipOfWhoMindsMost_18 {d : Nat} {F : xQ} {b : Nat × Nat} {I : xI} {L : xL} {z : Bool × Bool × Nat} {s0 : Int32} (hd : 1 ≤ d) (h : xCd d 129 [.ref 37, .int (f_X0_bestPlaceOf I L s0)] (xS I L z) (fun r τ => xEX k_X5_sipOfWhoMindsMost 1 (xCd d) F 30 [some (.ref 56), some (.int (f_X0_bestPlaceOf I L s0))] (r.toList ++ []) τ b)) : h_X5_sipOfWhoMindsMost_18 d F b I L z s0 :=
  (xgo b_X5_sipOfWhoMindsMost_18 (xuse1 s_X0_bestPlaceOf (Nat.le_trans (by decide) hd) (xgo b_X5_sipOfWhoMindsMost_21 h)))
set_option maxRecDepth 100000 in
theorem g_X5_sipOfWhoMindsMost_30 {d : Nat} {F : xQ} {b : Nat × Nat} {I : xI} {L : xL} {z : Bool × Bool × Nat} {a1 : Int32} {s0 : Int32} (hd : 1 ≤ d) (h : (if s0 = 0 then F (some (.int ((10 * a1) + 3))) (xS I L z) else xCd d 76 [.ref 56, .int 3] (xS I L z) (fun r τ => xEX k_X5_sipOfWhoMindsMost 1 (xCd d) F 38 [some (.ref 56), some (.int a1)] (r.toList ++ []) τ b))) : h_X5_sipOfWhoMindsMost_30 d F b I L z a1 s0 :=
  (xgo b_X5_sipOfWhoMindsMost_30 h)
set_option maxRecDepth 100000 in
theorem g_X5_sipOfWhoMindsMost_38 {d : Nat} {F : xQ} {b : Nat × Nat} {I : xI} {L : xL} {z : Bool × Bool × Nat} {a1 : Int32} {s0 : Int32} (hd : 1 ≤ d) (h : F (some (.int s0)) (xS I L z)) : h_X5_sipOfWhoMindsMost_38 d F b I L z a1 s0 :=
  (xgo b_X5_sipOfWhoMindsMost_38 h)
def h_X6_layCups_0 (d : Nat) (F : xQ) (b : Nat × Nat) (I : xI) (L : xL) (z : Bool × Bool × Nat) (a1 : Int32) : Prop := xEX k_X6_layCups 0 (xCd d) F 0 [some (.ref 10), some (.int a1)] [] (xS I L z) b
def h_X6_layCups_13 (d : Nat) (F : xQ) (b : Nat × Nat) (I : xI) (L : xL) (z : Bool × Bool × Nat) (a1 : Int32) : Prop := xEX k_X6_layCups 0 (xCd d) F 13 [some (.ref 10), some (.int a1)] [] (xS I L z) b
def h_X6_layCups_21 (d : Nat) (F : xQ) (b : Nat × Nat) (I : xI) (L : xL) (z : Bool × Bool × Nat) (a1 : Int32) : Prop := xEX k_X6_layCups 0 (xCd d) F 21 [some (.ref 10), some (.int a1)] [] (xS I L z) b
set_option maxRecDepth 100000 in
theorem g_X6_layCups_0 {d : Nat} {F : xQ} {b : Nat × Nat} {I : xI} {L : xL} {z : Bool × Bool × Nat} {a1 : Int32} (hd : 1 ≤ d) (h : xCd d 302 [.ref 11, .int 0] (xS (xw I 10 0 a1) L z) (fun r τ => xEX k_X6_layCups 0 (xCd d) F 13 [some (.ref 10), some (.int a1)] (r.toList ++ []) τ b)) : h_X6_layCups_0 d F b I L z a1 :=
  (xgo b_X6_layCups_0 h)
theorem c_X6_layCups {d : Nat} {F : xQ} {I : xI} {L : xL} {z : Bool × Bool × Nat} {a1 : Int32} (h : h_X6_layCups_0 d F (0, 0) I L z a1) : xCd (d + 1) 87 [.ref 10, .int a1] (xS I L z) F :=
  xin_ (T := k_X6_layCups) (rt := 0) (ls := [some (.ref 10), some (.int a1)]) rfl rfl rfl rfl h
set_option maxRecDepth 100000 in
theorem g_X6_layCups_13 {d : Nat} {F : xQ} {b : Nat × Nat} {I : xI} {L : xL} {z : Bool × Bool × Nat} {a1 : Int32} (hd : 1 ≤ d) (h : xCd d 302 [.ref 12, .int 0] (xS I L z) (fun r τ => xEX k_X6_layCups 0 (xCd d) F 21 [some (.ref 10), some (.int a1)] (r.toList ++ []) τ b)) : h_X6_layCups_13 d F b I L z a1 :=
  (xgo b_X6_layCups_13 h)
set_option maxRecDepth 100000 in
theorem g_X6_layCups_21 {d : Nat} {F : xQ} {b : Nat × Nat} {I : xI} {L : xL} {z : Bool × Bool × Nat} {a1 : Int32} (hd : 1 ≤ d) (h : F none (xS (xw (xw (xw I 10 5 1) 10 3 0) 10 6 1) L z)) : h_X6_layCups_21 d F b I L z a1 :=
  (xgo b_X6_layCups_21 (xupD (c_X6_dropSigns (xgo b_X6_layCups_30 h)) (Nat.le_trans (by decide) hd)))
def h_X6_pourRow_0 (d : Nat) (F : xQ) (b : Nat × Nat) (I : xI) (L : xL) (z : Bool × Bool × Nat) (a1 : Nat) : Prop := xEX k_X6_pourRow 0 (xCd d) F 0 [some (.ref 10), some (.ref a1), none, none] [] (xS I L z) b
def h_X6_pourRow_2 (d : Nat) (F : xQ) (b : Nat × Nat) (I : xI) (L : xL) (z : Bool × Bool × Nat) (a1 : Nat) (a2 : Int32) : Prop := xEX k_X6_pourRow 0 (xCd d) F 2 [some (.ref 10), some (.ref a1), some (.int a2), none] [] (xS I L z) b
set_option maxRecDepth 100000 in
theorem g_X6_pourRow_0 {d : Nat} {F : xQ} {b : Nat × Nat} {I : xI} {L : xL} {z : Bool × Bool × Nat} {a1 : Nat} (hd : 1 ≤ d) (h : h_X6_pourRow_2 d F b I L z a1 0) : h_X6_pourRow_0 d F b I L z a1 :=
  (xgo b_X6_pourRow_0 h)
theorem c_X6_pourRow {d : Nat} {F : xQ} {I : xI} {L : xL} {z : Bool × Bool × Nat} {a1 : Nat} (h : h_X6_pourRow_0 d F (0, 0) I L z a1) : xCd (d + 1) 88 [.ref 10, .ref a1] (xS I L z) F :=
  xin_ (T := k_X6_pourRow) (rt := 0) (ls := [some (.ref 10), some (.ref a1), none, none]) rfl rfl rfl rfl h
set_option maxRecDepth 100000 in
theorem g_X6_pourRow_2 {d : Nat} {F : xQ} {b : Nat × Nat} {I : xI} {L : xL} {z : Bool × Bool × Nat} {a1 : Nat} {a2 : Int32} (hd : 1 ≤ d) (h : (if a2 < 6 then (bif xalive (112, bif z.1 then 158 else 112, bif z.2.1 then 204 else 158) a1 && Nat.ble 20 (xkind a1) && !(Nat.beq (xkind a1) 24) then (if a2 < (Int32.ofNat (xlen z.2.2 (a1))) then (if p_X6_hasPlace I L a2 then (bif xisi (xS I L z) a1 then (if xin a2 (xlen z.2.2 (a1)) then (if xin a2 (6) then h_X6_pourRow_2 d F b (xw (xw I 11 (Int32.toNatClampNeg a2) (I a1 (Int32.toNatClampNeg a2))) 12 (Int32.toNatClampNeg a2) (I a1 (Int32.toNatClampNeg a2))) L z a1 (a2 + 1) else False) else False) else False) else (if xin a2 (6) then h_X6_pourRow_2 d F b (xw (xw I 11 (Int32.toNatClampNeg a2) 0) 12 (Int32.toNatClampNeg a2) 0) L z a1 (a2 + 1) else False)) else F none (xS (xw (xw (xw I 10 5 1) 10 3 0) 10 6 1) L z)) else False) else F none (xS (xw (xw (xw I 10 5 1) 10 3 0) 10 6 1) L z))) : h_X6_pourRow_2 d F b I L z a1 a2 :=
  (xgo b_X6_pourRow_2 (xite (fun c1082 h1082 => (xbif_mono (fun h1089 => (xite (fun c1083 h1083 => (xuse1 s_X6_hasPlace (Nat.le_trans (by decide) hd) (xgo b_X6_pourRow_19 (xiteB (fun c1084 h1084 => (xbif_mono (fun h1088 => (xite (fun c1086 h1086 => (xite (fun c1087 h1087 => (xitT c1087 (xwk (ls := [some (.ref 10), some (.ref a1), some (.int (a2 + 1)), none]) ⟨⟨rfl, ⟨rfl, ⟨rfl, trivial⟩⟩⟩, rfl⟩ h1087))) (fun c1087 h1087 => h1087) h1086)) (fun c1086 h1086 => h1086) h1088)) h1084)) (fun c1084 h1084 => (xite (fun c1085 h1085 => (xitT c1085 (xwk (ls := [some (.ref 10), some (.ref a1), some (.int (a2 + 1)), none]) ⟨⟨rfl, ⟨rfl, ⟨rfl, trivial⟩⟩⟩, rfl⟩ h1085))) (fun c1085 h1085 => h1085) h1084)) h1083)))) (fun c1083 h1083 => (xupD (c_X6_dropSigns (xgo b_X6_pourRow_59 h1083)) (Nat.le_trans (by decide) hd))) h1089)) h1082)) (fun c1082 h1082 => (xupD (c_X6_dropSigns (xgo b_X6_pourRow_59 h1082)) (Nat.le_trans (by decide) hd))) h))
def h_X6_setTruth_0 (d : Nat) (F : xQ) (b : Nat × Nat) (I : xI) (L : xL) (z : Bool × Bool × Nat) (a1 : Int32) : Prop := xEX k_X6_setTruth 0 (xCd d) F 0 [some (.ref 10), some (.int a1), none] [] (xS I L z) b
def h_X6_setTruth_2 (d : Nat) (F : xQ) (b : Nat × Nat) (I : xI) (L : xL) (z : Bool × Bool × Nat) (a1 : Int32) (a2 : Int32) : Prop := xEX k_X6_setTruth 0 (xCd d) F 2 [some (.ref 10), some (.int a1), some (.int a2)] [] (xS I L z) b
set_option maxRecDepth 100000 in
theorem g_X6_setTruth_0 {d : Nat} {F : xQ} {b : Nat × Nat} {I : xI} {L : xL} {z : Bool × Bool × Nat} {a1 : Int32} (hd : 1 ≤ d) (h : h_X6_setTruth_2 d F b I L z a1 0) : h_X6_setTruth_0 d F b I L z a1 :=
  (xgo b_X6_setTruth_0 h)
theorem c_X6_setTruth {d : Nat} {F : xQ} {I : xI} {L : xL} {z : Bool × Bool × Nat} {a1 : Int32} (h : h_X6_setTruth_0 d F (0, 0) I L z a1) : xCd (d + 1) 90 [.ref 10, .int a1] (xS I L z) F :=
  xin_ (T := k_X6_setTruth) (rt := 0) (ls := [some (.ref 10), some (.int a1), none]) rfl rfl rfl rfl h
set_option maxRecDepth 100000 in
theorem g_X6_setTruth_2 {d : Nat} {F : xQ} {b : Nat × Nat} {I : xI} {L : xL} {z : Bool × Bool × Nat} {a1 : Int32} {a2 : Int32} (hd : 1 ≤ d) (h : (if a2 < 6 then (if xin a2 (6) then h_X6_setTruth_2 d F b (xw I 12 (Int32.toNatClampNeg a2) (f_X7_sortAt I L a1 a2)) L z a1 (a2 + 1) else False) else F none (xS (xw (xw I 10 3 0) 10 6 1) L z))) : h_X6_setTruth_2 d F b I L z a1 a2 :=
  (xgo b_X6_setTruth_2 (xite (fun c1090 h1090 => (xuse1 s_X7_sortAt (Nat.le_trans (by decide) hd) (xgo b_X6_setTruth_18 h1090))) (fun c1090 h1090 => (xupD (c_X6_dropSigns (xgo b_X6_setTruth_29 h1090)) (Nat.le_trans (by decide) hd))) h))
def h_X6_knows_0 (d : Nat) (F : xQ) (b : Nat × Nat) (I : xI) (L : xL) (z : Bool × Bool × Nat) (a1 : Int32) (a2 : Int32) : Prop := xEX k_X6_knows 2 (xCd d) F 0 [some (.ref 10), some (.int a1), some (.int a2), none] [] (xS I L z) b
def h_X6_knows_2 (d : Nat) (F : xQ) (b : Nat × Nat) (I : xI) (L : xL) (z : Bool × Bool × Nat) (a1 : Int32) (a2 : Int32) (a3 : Int32) : Prop := xEX k_X6_knows 2 (xCd d) F 2 [some (.ref 10), some (.int a1), some (.int a2), some (.int a3)] [] (xS I L z) b
set_option maxRecDepth 100000 in
theorem g_X6_knows_0 {d : Nat} {F : xQ} {b : Nat × Nat} {I : xI} {L : xL} {z : Bool × Bool × Nat} {a1 : Int32} {a2 : Int32} (hd : 0 ≤ d) (h : h_X6_knows_2 d F b I L z a1 a2 0) : h_X6_knows_0 d F b I L z a1 a2 :=
  (xgo b_X6_knows_0 h)
theorem c_X6_knows {d : Nat} {F : xQ} {I : xI} {L : xL} {z : Bool × Bool × Nat} {a1 : Int32} {a2 : Int32} (h : h_X6_knows_0 d F (0, 0) I L z a1 a2) : xCd (d + 1) 99 [.ref 10, .int a1, .int a2] (xS I L z) F :=
  xin_ (T := k_X6_knows) (rt := 2) (ls := [some (.ref 10), some (.int a1), some (.int a2), none]) rfl rfl rfl rfl h
set_option maxRecDepth 100000 in
theorem g_X6_knows_2 {d : Nat} {F : xQ} {b : Nat × Nat} {I : xI} {L : xL} {z : Bool × Bool × Nat} {a1 : Int32} {a2 : Int32} {a3 : Int32} (hd : 0 ≤ d) (h : (if a3 < (I 10 3) then (if a3 < 24 then (if xin a3 (24) then (if ((I 16 (Int32.toNatClampNeg a3)) / 10) = ((a1 * 4) + a2) then F (some (.int 1)) (xS I L z) else h_X6_knows_2 d F b I L z a1 a2 (a3 + 1)) else False) else F (some (.int 0)) (xS I L z)) else F (some (.int 0)) (xS I L z))) : h_X6_knows_2 d F b I L z a1 a2 a3 :=
  (xgo b_X6_knows_2 h)
def h_X6_learn_0 (d : Nat) (F : xQ) (b : Nat × Nat) (I : xI) (L : xL) (z : Bool × Bool × Nat) (a1 : Int32) (a2 : Int32) (a3 : Int32) : Prop := xEX k_X6_learn 2 (xCd d) F 0 [some (.ref 10), some (.int a1), some (.int a2), some (.int a3)] [] (xS I L z) b
def h_X6_learn_6 (d : Nat) (F : xQ) (b : Nat × Nat) (I : xI) (L : xL) (z : Bool × Bool × Nat) (a1 : Int32) (a2 : Int32) (a3 : Int32) (s0 : Int32) : Prop := xEX k_X6_learn 2 (xCd d) F 6 [some (.ref 10), some (.int a1), some (.int a2), some (.int a3)] [.int s0] (xS I L z) b
set_option maxRecDepth 100000 in
theorem g_X6_learn_0 {d : Nat} {F : xQ} {b : Nat × Nat} {I : xI} {L : xL} {z : Bool × Bool × Nat} {a1 : Int32} {a2 : Int32} {a3 : Int32} (hd : 1 ≤ d) (h : xCd d 99 [.ref 10, .int a1, .int a2] (xS I L z) (fun r τ => xEX k_X6_learn 2 (xCd d) F 6 [some (.ref 10), some (.int a1), some (.int a2), some (.int a3)] (r.toList ++ []) τ b)) : h_X6_learn_0 d F b I L z a1 a2 a3 :=
  (xgo b_X6_learn_0 h)
theorem c_X6_learn {d : Nat} {F : xQ} {I : xI} {L : xL} {z : Bool × Bool × Nat} {a1 : Int32} {a2 : Int32} {a3 : Int32} (h : h_X6_learn_0 d F (0, 0) I L z a1 a2 a3) : xCd (d + 1) 100 [.ref 10, .int a1, .int a2, .int a3] (xS I L z) F :=
  xin_ (T := k_X6_learn) (rt := 2) (ls := [some (.ref 10), some (.int a1), some (.int a2), some (.int a3)]) rfl rfl rfl rfl h
set_option maxRecDepth 100000 in
theorem g_X6_learn_6 {d : Nat} {F : xQ} {b : Nat × Nat} {I : xI} {L : xL} {z : Bool × Bool × Nat} {a1 : Int32} {a2 : Int32} {a3 : Int32} {s0 : Int32} (hd : 1 ≤ d) (h : (if s0 = 0 then (if (I 10 3) < 0 then F (some (.int 0)) (xS I L z) else (if (I 10 3) < 24 then (if xin (I 10 3) (24) then F (some (.int 1)) (xS (xw (xw (xw I 16 (Int32.toNatClampNeg (I 10 3)) (f_X6_signFor I L a1 a2 a3)) 10 3 (((xw I 16 (Int32.toNatClampNeg (I 10 3)) (f_X6_signFor I L a1 a2 a3)) 10 3) + 1)) 10 6 1) L z) else False) else F (some (.int 0)) (xS I L z))) else F (some (.int 1)) (xS I L z))) : h_X6_learn_6 d F b I L z a1 a2 a3 s0 :=
  (xgo b_X6_learn_6 (xite (fun c1096 h1096 => (xite (fun c1097 h1097 => h1097) (fun c1097 h1097 => (xite (fun c1098 h1098 => (xuse1 s_X6_signFor (Nat.le_trans (by decide) hd) (xgo b_X6_learn_46 h1098))) (fun c1098 h1098 => h1098) h1097)) h1096)) (fun c1096 h1096 => h1096) h))
def h_X6_sortsWithSign_0 (d : Nat) (F : xQ) (b : Nat × Nat) (I : xI) (L : xL) (z : Bool × Bool × Nat) (a1 : Int32) : Prop := xEX k_X6_sortsWithSign 1 (xCd d) F 0 [some (.ref 10), some (.int a1), none, none, none, none, none] [] (xS I L z) b
def h_X6_sortsWithSign_53 (d : Nat) (F : xQ) (b : Nat × Nat) (I : xI) (L : xL) (z : Bool × Bool × Nat) (a1 : Int32) (a2 : Int32) (a3 : Int32) (a4 : Int32) (a5 : Int32) (a6 : Int32) : Prop := xEX k_X6_sortsWithSign 1 (xCd d) F 53 [some (.ref 10), some (.int a1), some (.int a2), some (.int a3), some (.int a4), some (.int a5), some (.int a6)] [] (xS I L z) b
set_option maxRecDepth 100000 in
theorem g_X6_sortsWithSign_0 {d : Nat} {F : xQ} {b : Nat × Nat} {I : xI} {L : xL} {z : Bool × Bool × Nat} {a1 : Int32} (hd : 0 ≤ d) (h : (if a1 < 0 then (if ((0 / 10) - (0 / 10) / 4 * 4) = 3 then F (some (.int ((1 : Int32) <<< ((0 - 0 / 10 * 10) &&& 31)))) (xS I L z) else h_X6_sortsWithSign_53 d F b I L z a1 0 ((0 / 10) - (0 / 10) / 4 * 4) (0 - 0 / 10 * 10) 0 ((0 / 10) - (0 / 10) / 4 * 4)) else (if a1 < 24 then (if xin a1 (24) then (if (((I 16 (Int32.toNatClampNeg a1)) / 10) - ((I 16 (Int32.toNatClampNeg a1)) / 10) / 4 * 4) = 3 then F (some (.int (1 <<< (((I 16 (Int32.toNatClampNeg a1)) - (I 16 (Int32.toNatClampNeg a1)) / 10 * 10) &&& 31)))) (xS I L z) else h_X6_sortsWithSign_53 d F b I L z a1 (I 16 (Int32.toNatClampNeg a1)) (((I 16 (Int32.toNatClampNeg a1)) / 10) - ((I 16 (Int32.toNatClampNeg a1)) / 10) / 4 * 4) ((I 16 (Int32.toNatClampNeg a1)) - (I 16 (Int32.toNatClampNeg a1)) / 10 * 10) 0 (((I 16 (Int32.toNatClampNeg a1)) / 10) - ((I 16 (Int32.toNatClampNeg a1)) / 10) / 4 * 4)) else False) else (if ((0 / 10) - (0 / 10) / 4 * 4) = 3 then F (some (.int ((1 : Int32) <<< ((0 - 0 / 10 * 10) &&& 31)))) (xS I L z) else h_X6_sortsWithSign_53 d F b I L z a1 0 ((0 / 10) - (0 / 10) / 4 * 4) (0 - 0 / 10 * 10) 0 ((0 / 10) - (0 / 10) / 4 * 4))))) : h_X6_sortsWithSign_0 d F b I L z a1 :=
  (xgo b_X6_sortsWithSign_0 (xite (fun c1100 h1100 => (xgo b_X6_sortsWithSign_23 h1100)) (fun c1100 h1100 => (xite (fun c1102 h1102 => (xite (fun c1103 h1103 => (xgo b_X6_sortsWithSign_23 h1103)) (fun c1103 h1103 => h1103) h1102)) (fun c1102 h1102 => (xgo b_X6_sortsWithSign_23 h1102)) h1100)) h))
theorem c_X6_sortsWithSign {d : Nat} {F : xQ} {I : xI} {L : xL} {z : Bool × Bool × Nat} {a1 : Int32} (h : h_X6_sortsWithSign_0 d F (0, 0) I L z a1) : xCd (d + 1) 102 [.ref 10, .int a1] (xS I L z) F :=
  xin_ (T := k_X6_sortsWithSign) (rt := 1) (ls := [some (.ref 10), some (.int a1), none, none, none, none, none]) rfl rfl rfl rfl h
set_option maxRecDepth 100000 in
theorem g_X6_sortsWithSign_53 {d : Nat} {F : xQ} {b : Nat × Nat} {I : xI} {L : xL} {z : Bool × Bool × Nat} {a1 : Int32} {a2 : Int32} {a3 : Int32} {a4 : Int32} {a5 : Int32} {a6 : Int32} (hd : 0 ≤ d) (h : (if a6 < 18 then (if xin a6 (18) then (if (I 13 (Int32.toNatClampNeg a6)) = a4 then h_X6_sortsWithSign_53 d F b I L z a1 a2 a3 a4 (a5 ||| (1 <<< ((a6 / 3) &&& 31))) (a6 + 3) else h_X6_sortsWithSign_53 d F b I L z a1 a2 a3 a4 a5 (a6 + 3)) else False) else F (some (.int a5)) (xS I L z))) : h_X6_sortsWithSign_53 d F b I L z a1 a2 a3 a4 a5 a6 :=
  (xgo b_X6_sortsWithSign_53 h)
def h_X6_unlikePoured_0 (d : Nat) (F : xQ) (b : Nat × Nat) (I : xI) (L : xL) (z : Bool × Bool × Nat)  : Prop := xEX k_X6_unlikePoured 1 (xCd d) F 0 [some (.ref 10), none, none] [] (xS I L z) b
def h_X6_unlikePoured_4 (d : Nat) (F : xQ) (b : Nat × Nat) (I : xI) (L : xL) (z : Bool × Bool × Nat) (a1 : Int32) (a2 : Int32) : Prop := xEX k_X6_unlikePoured 1 (xCd d) F 4 [some (.ref 10), some (.int a1), some (.int a2)] [] (xS I L z) b
set_option maxRecDepth 100000 in
theorem g_X6_unlikePoured_0 {d : Nat} {F : xQ} {b : Nat × Nat} {I : xI} {L : xL} {z : Bool × Bool × Nat}  (hd : 1 ≤ d) (h : h_X6_unlikePoured_4 d F b I L z 0 0) : h_X6_unlikePoured_0 d F b I L z  :=
  (xgo b_X6_unlikePoured_0 h)
theorem c_X6_unlikePoured {d : Nat} {F : xQ} {I : xI} {L : xL} {z : Bool × Bool × Nat}  (h : h_X6_unlikePoured_0 d F (0, 0) I L z ) : xCd (d + 1) 103 [.ref 10] (xS I L z) F :=
  xin_ (T := k_X6_unlikePoured) (rt := 1) (ls := [some (.ref 10), none, none]) rfl rfl rfl rfl h
set_option maxRecDepth 100000 in
theorem g_X6_unlikePoured_4 {d : Nat} {F : xQ} {b : Nat × Nat} {I : xI} {L : xL} {z : Bool × Bool × Nat} {a1 : Int32} {a2 : Int32} (hd : 1 ≤ d) (h : (if a2 < (I 10 0) then (if a2 < 6 then (if xin a2 (6) then h_X6_unlikePoured_4 d F b I L z (a1 ||| (1 <<< ((I 11 (Int32.toNatClampNeg a2)) &&& 31))) (a2 + 1) else False) else F (some (.int (f_J6_bitCount_0f7a4 I L a1))) (xS I L z)) else F (some (.int (f_J6_bitCount_0f7a4 I L a1))) (xS I L z))) : h_X6_unlikePoured_4 d F b I L z a1 a2 :=
  (xgo b_X6_unlikePoured_4 (xite (fun c1109 h1109 => (xite (fun c1110 h1110 => h1110) (fun c1110 h1110 => (xuse1 s_J6_bitCount_0f7a4 (Nat.le_trans (by decide) hd) (xgo b_X6_unlikePoured_42 h1110))) h1109)) (fun c1109 h1109 => (xuse1 s_J6_bitCount_0f7a4 (Nat.le_trans (by decide) hd) (xgo b_X6_unlikePoured_42 h1109))) h))
def h_X6_howManyPoured_0 (d : Nat) (F : xQ) (b : Nat × Nat) (I : xI) (L : xL) (z : Bool × Bool × Nat) (a1 : Int32) : Prop := xEX k_X6_howManyPoured 1 (xCd d) F 0 [some (.ref 10), some (.int a1), none, none] [] (xS I L z) b
def h_X6_howManyPoured_4 (d : Nat) (F : xQ) (b : Nat × Nat) (I : xI) (L : xL) (z : Bool × Bool × Nat) (a1 : Int32) (a2 : Int32) (a3 : Int32) : Prop := xEX k_X6_howManyPoured 1 (xCd d) F 4 [some (.ref 10), some (.int a1), some (.int a2), some (.int a3)] [] (xS I L z) b
set_option maxRecDepth 100000 in
theorem g_X6_howManyPoured_0 {d : Nat} {F : xQ} {b : Nat × Nat} {I : xI} {L : xL} {z : Bool × Bool × Nat} {a1 : Int32} (hd : 0 ≤ d) (h : h_X6_howManyPoured_4 d F b I L z a1 0 0) : h_X6_howManyPoured_0 d F b I L z a1 :=
  (xgo b_X6_howManyPoured_0 h)
theorem c_X6_howManyPoured {d : Nat} {F : xQ} {I : xI} {L : xL} {z : Bool × Bool × Nat} {a1 : Int32} (h : h_X6_howManyPoured_0 d F (0, 0) I L z a1) : xCd (d + 1) 104 [.ref 10, .int a1] (xS I L z) F :=
  xin_ (T := k_X6_howManyPoured) (rt := 1) (ls := [some (.ref 10), some (.int a1), none, none]) rfl rfl rfl rfl h
set_option maxRecDepth 100000 in
theorem g_X6_howManyPoured_4 {d : Nat} {F : xQ} {b : Nat × Nat} {I : xI} {L : xL} {z : Bool × Bool × Nat} {a1 : Int32} {a2 : Int32} {a3 : Int32} (hd : 0 ≤ d) (h : (if a3 < (I 10 0) then (if a3 < 6 then (if xin a3 (6) then (if (I 11 (Int32.toNatClampNeg a3)) = a1 then h_X6_howManyPoured_4 d F b I L z a1 (a2 + 1) (a3 + 1) else h_X6_howManyPoured_4 d F b I L z a1 a2 (a3 + 1)) else False) else F (some (.int a2)) (xS I L z)) else F (some (.int a2)) (xS I L z))) : h_X6_howManyPoured_4 d F b I L z a1 a2 a3 :=
  (xgo b_X6_howManyPoured_4 h)
def h_X6_turnsToTruth_0 (d : Nat) (F : xQ) (b : Nat × Nat) (I : xI) (L : xL) (z : Bool × Bool × Nat)  : Prop := xEX k_X6_turnsToTruth 1 (xCd d) F 0 [some (.ref 10), none] [] (xS I L z) b
def h_X6_turnsToTruth_2 (d : Nat) (F : xQ) (b : Nat × Nat) (I : xI) (L : xL) (z : Bool × Bool × Nat) (a1 : Int32) : Prop := xEX k_X6_turnsToTruth 1 (xCd d) F 2 [some (.ref 10), some (.int a1)] [] (xS I L z) b
def h_X6_turnsToTruth_15 (d : Nat) (F : xQ) (b : Nat × Nat) (I : xI) (L : xL) (z : Bool × Bool × Nat) (a1 : Int32) (s0 : Int32) : Prop := xEX k_X6_turnsToTruth 1 (xCd d) F 15 [some (.ref 10), some (.int a1)] [.int s0] (xS I L z) b
set_option maxRecDepth 100000 in
theorem g_X6_turnsToTruth_0 {d : Nat} {F : xQ} {b : Nat × Nat} {I : xI} {L : xL} {z : Bool × Bool × Nat}  (hd : 0 ≤ d) (h : h_X6_turnsToTruth_2 d F b I L z 0) : h_X6_turnsToTruth_0 d F b I L z  :=
  (xgo b_X6_turnsToTruth_0 h)
theorem c_X6_turnsToTruth {d : Nat} {F : xQ} {I : xI} {L : xL} {z : Bool × Bool × Nat}  (h : h_X6_turnsToTruth_0 d F (0, 0) I L z ) : xCd (d + 1) 106 [.ref 10] (xS I L z) F :=
  xin_ (T := k_X6_turnsToTruth) (rt := 1) (ls := [some (.ref 10), none]) rfl rfl rfl rfl h
set_option maxRecDepth 100000 in
theorem g_X6_turnsToTruth_2 {d : Nat} {F : xQ} {b : Nat × Nat} {I : xI} {L : xL} {z : Bool × Bool × Nat} {a1 : Int32} (hd : 0 ≤ d) (h : (if a1 < (I 10 0) then xCd d 107 [.ref 10, .int a1] (xS I L z) (fun r τ => xEX k_X6_turnsToTruth 1 (xCd d) F 15 [some (.ref 10), some (.int a1)] (r.toList ++ []) τ b) else F (some (.int (-1 : Int32))) (xS I L z))) : h_X6_turnsToTruth_2 d F b I L z a1 :=
  (xgo b_X6_turnsToTruth_2 h)
set_option maxRecDepth 100000 in
theorem g_X6_turnsToTruth_15 {d : Nat} {F : xQ} {b : Nat × Nat} {I : xI} {L : xL} {z : Bool × Bool × Nat} {a1 : Int32} {s0 : Int32} (hd : 0 ≤ d) (h : (if s0 = 0 then h_X6_turnsToTruth_2 d F b I L z (a1 + 1) else F (some (.int a1)) (xS I L z))) : h_X6_turnsToTruth_15 d F b I L z a1 s0 :=
  (xgo b_X6_turnsToTruth_15 h)
def h_X6_isTurnedSo_0 (d : Nat) (F : xQ) (b : Nat × Nat) (I : xI) (L : xL) (z : Bool × Bool × Nat) (a1 : Int32) : Prop := xEX k_X6_isTurnedSo 2 (xCd d) F 0 [some (.ref 10), some (.int a1), none] [] (xS I L z) b
def h_X6_isTurnedSo_2 (d : Nat) (F : xQ) (b : Nat × Nat) (I : xI) (L : xL) (z : Bool × Bool × Nat) (a1 : Int32) (a2 : Int32) : Prop := xEX k_X6_isTurnedSo 2 (xCd d) F 2 [some (.ref 10), some (.int a1), some (.int a2)] [] (xS I L z) b
set_option maxRecDepth 100000 in
theorem g_X6_isTurnedSo_0 {d : Nat} {F : xQ} {b : Nat × Nat} {I : xI} {L : xL} {z : Bool × Bool × Nat} {a1 : Int32} (hd : 1 ≤ d) (h : h_X6_isTurnedSo_2 d F b I L z a1 0) : h_X6_isTurnedSo_0 d F b I L z a1 :=
  (xgo b_X6_isTurnedSo_0 h)
theorem c_X6_isTurnedSo {d : Nat} {F : xQ} {I : xI} {L : xL} {z : Bool × Bool × Nat} {a1 : Int32} (h : h_X6_isTurnedSo_0 d F (0, 0) I L z a1) : xCd (d + 1) 107 [.ref 10, .int a1] (xS I L z) F :=
  xin_ (T := k_X6_isTurnedSo) (rt := 2) (ls := [some (.ref 10), some (.int a1), none]) rfl rfl rfl rfl h
set_option maxRecDepth 100000 in
theorem g_X6_isTurnedSo_2 {d : Nat} {F : xQ} {b : Nat × Nat} {I : xI} {L : xL} {z : Bool × Bool × Nat} {a1 : Int32} {a2 : Int32} (hd : 1 ≤ d) (h : (if a2 < (I 10 0) then (if (f_X6_pouredAndTurned I L a2 a1) = (f_X6_truthAt I L a2) then h_X6_isTurnedSo_2 d F b I L z a1 (a2 + 1) else F (some (.int 0)) (xS I L z)) else F (some (.int 1)) (xS I L z))) : h_X6_isTurnedSo_2 d F b I L z a1 a2 :=
  (xgo b_X6_isTurnedSo_2 (xite (fun c1119 h1119 => (xuse1 s_X6_pouredAndTurned (Nat.le_trans (by decide) hd) (xgo b_X6_isTurnedSo_16 (xuse1 s_X6_truthAt (Nat.le_trans (by decide) hd) (xgo b_X6_isTurnedSo_21 h1119))))) (fun c1119 h1119 => h1119) h))
def h_X7_worldIn_0 (d : Nat) (F : xQ) (b : Nat × Nat) (I : xI) (L : xL) (z : Bool × Bool × Nat) (a0 : Nat) (a1 : Int32) : Prop := xEX k_X7_worldIn 1 (xCd d) F 0 [some (.ref a0), some (.int a1), none, none] [] (xS I L z) b
def h_X7_worldIn_4 (d : Nat) (F : xQ) (b : Nat × Nat) (I : xI) (L : xL) (z : Bool × Bool × Nat) (a0 : Nat) (a1 : Int32) (a2 : Int32) (a3 : Int32) : Prop := xEX k_X7_worldIn 1 (xCd d) F 4 [some (.ref a0), some (.int a1), some (.int a2), some (.int a3)] [] (xS I L z) b
set_option maxRecDepth 100000 in
theorem g_X7_worldIn_0 {d : Nat} {F : xQ} {b : Nat × Nat} {I : xI} {L : xL} {z : Bool × Bool × Nat} {a0 : Nat} {a1 : Int32} (hd : 0 ≤ d) (h : h_X7_worldIn_4 d F b I L z a0 a1 0 0) : h_X7_worldIn_0 d F b I L z a0 a1 :=
  (xgo b_X7_worldIn_0 h)
theorem c_X7_worldIn {d : Nat} {F : xQ} {I : xI} {L : xL} {z : Bool × Bool × Nat} {a0 : Nat} {a1 : Int32} (h : h_X7_worldIn_0 d F (0, 0) I L z a0 a1) : xCd (d + 1) 113 [.ref a0, .int a1] (xS I L z) F :=
  xin_ (T := k_X7_worldIn) (rt := 1) (ls := [some (.ref a0), some (.int a1), none, none]) rfl rfl rfl rfl h
set_option maxRecDepth 100000 in
theorem g_X7_worldIn_4 {d : Nat} {F : xQ} {b : Nat × Nat} {I : xI} {L : xL} {z : Bool × Bool × Nat} {a0 : Nat} {a1 : Int32} {a2 : Int32} {a3 : Int32} (hd : 0 ≤ d) (h : (if a3 < a1 then (bif xalive (112, bif z.1 then 158 else 112, bif z.2.1 then 204 else 158) a0 && Nat.ble 20 (xkind a0) && !(Nat.beq (xkind a0) 24) then (if a3 < (Int32.ofNat (xlen z.2.2 (a0))) then (if a3 < 6 then (bif xisi (xS I L z) a0 then (if xin a3 (xlen z.2.2 (a0)) then (if xin a3 (6) then h_X7_worldIn_4 d F b I L z a0 a1 (a2 ||| (((I a0 (Int32.toNatClampNeg a3)) &&& 7) <<< ((I 2 (Int32.toNatClampNeg a3)) &&& 31))) (a3 + 1) else False) else False) else False) else F (some (.int a2)) (xS I L z)) else F (some (.int a2)) (xS I L z)) else False) else F (some (.int a2)) (xS I L z))) : h_X7_worldIn_4 d F b I L z a0 a1 a2 a3 :=
  (xgo b_X7_worldIn_4 h)
def h_X7_refresh_0 (d : Nat) (F : xQ) (b : Nat × Nat) (I : xI) (L : xL) (z : Bool × Bool × Nat)  : Prop := xEX k_X7_refresh 0 (xCd d) F 0 [some (.ref 37)] [] (xS I L z) b
def h_X7_refresh_46 (d : Nat) (F : xQ) (b : Nat × Nat) (I : xI) (L : xL) (z : Bool × Bool × Nat)  : Prop := xEX k_X7_refresh 0 (xCd d) F 46 [some (.ref 37)] [] (xS I L z) b
def h_X7_refresh_74 (d : Nat) (F : xQ) (b : Nat × Nat) (I : xI) (L : xL) (z : Bool × Bool × Nat)  : Prop := xEX k_X7_refresh 0 (xCd d) F 74 [some (.ref 37)] [] (xS I L z) b
def h_X7_refresh_96 (d : Nat) (F : xQ) (b : Nat × Nat) (I : xI) (L : xL) (z : Bool × Bool × Nat)  : Prop := xEX k_X7_refresh 0 (xCd d) F 96 [some (.ref 37)] [] (xS I L z) b
set_option maxRecDepth 100000 in
theorem g_X7_refresh_0 {d : Nat} {F : xQ} {b : Nat × Nat} {I : xI} {L : xL} {z : Bool × Bool × Nat}  (hd : 0 ≤ d) (h : (if (I 10 5) = 0 then h_X7_refresh_74 d F b I L z else (if ((xw (xw (xw I 10 5 0) 10 6 1) 37 0 0) 10 1) = 2 then xCd d 115 [.ref 37] (xS (xw (xw (xw I 10 5 0) 10 6 1) 37 0 0) L z) (fun r τ => xEX k_X7_refresh 0 (xCd d) F 46 [some (.ref 37)] (r.toList ++ []) τ b) else (if ((xw (xw (xw I 10 5 0) 10 6 1) 37 0 0) 10 1) = 0 then xCd d 117 [.ref 37, .int 1] (xS (xw (xw (xw I 10 5 0) 10 6 1) 37 0 0) L z) (fun r τ => xEX k_X7_refresh 0 (xCd d) F 74 [some (.ref 37)] (r.toList ++ []) τ b) else xCd d 117 [.ref 37, .int ((xw (xw (xw I 10 5 0) 10 6 1) 37 0 0) 10 0)] (xS (xw (xw (xw I 10 5 0) 10 6 1) 37 0 0) L z) (fun r τ => xEX k_X7_refresh 0 (xCd d) F 74 [some (.ref 37)] (r.toList ++ []) τ b))))) : h_X7_refresh_0 d F b I L z  :=
  (xgo b_X7_refresh_0 h)
theorem c_X7_refresh {d : Nat} {F : xQ} {I : xI} {L : xL} {z : Bool × Bool × Nat}  (h : h_X7_refresh_0 d F (0, 0) I L z ) : xCd (d + 1) 114 [.ref 37] (xS I L z) F :=
  xin_ (T := k_X7_refresh) (rt := 0) (ls := [some (.ref 37)]) rfl rfl rfl rfl h
set_option maxRecDepth 100000 in
theorem g_X7_refresh_46 {d : Nat} {F : xQ} {b : Nat × Nat} {I : xI} {L : xL} {z : Bool × Bool × Nat}  (hd : 0 ≤ d) (h : h_X7_refresh_74 d F b I L z) : h_X7_refresh_46 d F b I L z  :=
  (xgo b_X7_refresh_46 h)
set_option maxRecDepth 100000 in
theorem g_X7_refresh_74 {d : Nat} {F : xQ} {b : Nat × Nat} {I : xI} {L : xL} {z : Bool × Bool × Nat}  (hd : 0 ≤ d) (h : (if (I 10 6) = 0 then h_X7_refresh_96 d F b I L z else xCd d 119 [.ref 37] (xS (xw I 10 6 0) L z) (fun r τ => xEX k_X7_refresh 0 (xCd d) F 96 [some (.ref 37)] (r.toList ++ []) τ b))) : h_X7_refresh_74 d F b I L z  :=
  (xgo b_X7_refresh_74 h)
set_option maxRecDepth 100000 in
theorem g_X7_refresh_96 {d : Nat} {F : xQ} {b : Nat × Nat} {I : xI} {L : xL} {z : Bool × Bool × Nat}  (hd : 0 ≤ d) (h : F none (xS I L z)) : h_X7_refresh_96 d F b I L z  :=
  (xgo b_X7_refresh_96 h)
def h_X7_findMixed_0 (d : Nat) (F : xQ) (b : Nat × Nat) (I : xI) (L : xL) (z : Bool × Bool × Nat)  : Prop := xEX k_X7_findMixed 0 (xCd d) F 0 [some (.ref 37), none, none, none] [] (xS I L z) b
def h_X7_findMixed_4 (d : Nat) (F : xQ) (b : Nat × Nat) (I : xI) (L : xL) (z : Bool × Bool × Nat) (a1 : Int32) (a2 : Int32) : Prop := xEX k_X7_findMixed 0 (xCd d) F 4 [some (.ref 37), some (.int a1), some (.int a2), none] [] (xS I L z) b
def h_X7_findMixed_18 (d : Nat) (F : xQ) (b : Nat × Nat) (I : xI) (L : xL) (z : Bool × Bool × Nat) (a1 : Int32) (a2 : Int32) (s0 : Int32) : Prop := xEX k_X7_findMixed 0 (xCd d) F 18 [some (.ref 37), some (.int a1), some (.int a2), none] [.int s0] (xS I L z) b
def h_X7_findMixed_19 (d : Nat) (F : xQ) (b : Nat × Nat) (I : xI) (L : xL) (z : Bool × Bool × Nat) (a1 : Int32) (a2 : Int32) (a3 : Int32) : Prop := xEX k_X7_findMixed 0 (xCd d) F 19 [some (.ref 37), some (.int a1), some (.int a2), some (.int a3)] [] (xS I L z) b
def h_X7_findMixed_58 (d : Nat) (F : xQ) (b : Nat × Nat) (I : xI) (L : xL) (z : Bool × Bool × Nat) (a1 : Int32) (a2 : Int32) (a3 : Int32) : Prop := xEX k_X7_findMixed 0 (xCd d) F 58 [some (.ref 37), some (.int a1), some (.int a2), some (.int a3)] [] (xS I L z) b
def h_X7_findMixed_82 (d : Nat) (F : xQ) (b : Nat × Nat) (I : xI) (L : xL) (z : Bool × Bool × Nat) (a1 : Int32) (a2 : Int32) (a3 : Int32) (s1 : Int32) (s0 : Int32) : Prop := xEX k_X7_findMixed 0 (xCd d) F 82 [some (.ref 37), some (.int a1), some (.int a2), some (.int a3)] [.int s0, .int s1, .ref 38] (xS I L z) b
def h_X7_findMixed_95 (d : Nat) (F : xQ) (b : Nat × Nat) (I : xI) (L : xL) (z : Bool × Bool × Nat) (a1 : Int32) (a2 : Int32) (a3 : Int32) (s0 : Int32) : Prop := xEX k_X7_findMixed 0 (xCd d) F 95 [some (.ref 37), some (.int a1), some (.int a2), some (.int a3)] [.int s0] (xS I L z) b
set_option maxRecDepth 100000 in
theorem g_X7_findMixed_0 {d : Nat} {F : xQ} {b : Nat × Nat} {I : xI} {L : xL} {z : Bool × Bool × Nat}  (hd : 0 ≤ d) (h : h_X7_findMixed_4 d F b I L z 0 0) : h_X7_findMixed_0 d F b I L z  :=
  (xgo b_X7_findMixed_0 h)
theorem c_X7_findMixed {d : Nat} {F : xQ} {I : xI} {L : xL} {z : Bool × Bool × Nat}  (h : h_X7_findMixed_0 d F (0, 0) I L z ) : xCd (d + 1) 115 [.ref 37] (xS I L z) F :=
  xin_ (T := k_X7_findMixed) (rt := 0) (ls := [some (.ref 37), none, none, none]) rfl rfl rfl rfl h
set_option maxRecDepth 100000 in
theorem g_X7_findMixed_4 {d : Nat} {F : xQ} {b : Nat × Nat} {I : xI} {L : xL} {z : Bool × Bool × Nat} {a1 : Int32} {a2 : Int32} (hd : 0 ≤ d) (h : (if a2 < 6 then xCd d 104 [.ref 10, .int a2] (xS I L z) (fun r τ => xEX k_X7_findMixed 0 (xCd d) F 18 [some (.ref 37), some (.int a1), some (.int a2), none] (r.toList ++ []) τ b) else h_X7_findMixed_58 d F b I L z a1 1 0)) : h_X7_findMixed_4 d F b I L z a1 a2 :=
  (xgo b_X7_findMixed_4 h)
set_option maxRecDepth 100000 in
theorem g_X7_findMixed_18 {d : Nat} {F : xQ} {b : Nat × Nat} {I : xI} {L : xL} {z : Bool × Bool × Nat} {a1 : Int32} {a2 : Int32} {s0 : Int32} (hd : 0 ≤ d) (h : h_X7_findMixed_19 d F b I L z a1 a2 s0) : h_X7_findMixed_18 d F b I L z a1 a2 s0 :=
  (xgo b_X7_findMixed_18 h)
set_option maxRecDepth 100000 in
theorem g_X7_findMixed_19 {d : Nat} {F : xQ} {b : Nat × Nat} {I : xI} {L : xL} {z : Bool × Bool × Nat} {a1 : Int32} {a2 : Int32} {a3 : Int32} (hd : 0 ≤ d) (h : (if 0 < a3 then (if a1 < 6 then (if xin a1 (6) then h_X7_findMixed_19 d F b (xw I 41 (Int32.toNatClampNeg a1) a2) L z (a1 + 1) a2 (a3 + (-1 : Int32)) else False) else h_X7_findMixed_4 d F b I L z a1 (a2 + 1)) else h_X7_findMixed_4 d F b I L z a1 (a2 + 1))) : h_X7_findMixed_19 d F b I L z a1 a2 a3 :=
  (xgo b_X7_findMixed_19 (xite (fun c1148 h1148 => (xite (fun c1149 h1149 => h1149) (fun c1149 h1149 => (xwk (ls := [some (.ref 37), some (.int a1), some (.int (a2 + 1)), none]) ⟨⟨rfl, ⟨rfl, ⟨rfl, trivial⟩⟩⟩, rfl⟩ h1149)) h1148)) (fun c1148 h1148 => (xwk (ls := [some (.ref 37), some (.int a1), some (.int (a2 + 1)), none]) ⟨⟨rfl, ⟨rfl, ⟨rfl, trivial⟩⟩⟩, rfl⟩ h1148)) h))
set_option maxRecDepth 100000 in
theorem g_X7_findMixed_58 {d : Nat} {F : xQ} {b : Nat × Nat} {I : xI} {L : xL} {z : Bool × Bool × Nat} {a1 : Int32} {a2 : Int32} {a3 : Int32} (hd : 0 ≤ d) (h : (if a3 < 720 then (if a2 = 0 then F none (xS I L z) else xCd d 113 [.ref 41, .int a1] (xS I L z) (fun r τ => xEX k_X7_findMixed 0 (xCd d) F 82 [some (.ref 37), some (.int a1), some (.int a2), some (.int a3)] (r.toList ++ [.int a3, .ref 38]) τ b)) else F none (xS I L z))) : h_X7_findMixed_58 d F b I L z a1 a2 a3 :=
  (xgo b_X7_findMixed_58 h)
set_option maxRecDepth 100000 in
theorem g_X7_findMixed_82 {d : Nat} {F : xQ} {b : Nat × Nat} {I : xI} {L : xL} {z : Bool × Bool × Nat} {a1 : Int32} {a2 : Int32} {a3 : Int32} {s1 : Int32} {s0 : Int32} (hd : 0 ≤ d) (h : (if xin s1 (720) then xCd d 116 [.ref 37, .int a1] (xS (xw (xw I 38 (Int32.toNatClampNeg s1) s0) 37 0 (a3 + 1)) L z) (fun r τ => xEX k_X7_findMixed 0 (xCd d) F 95 [some (.ref 37), some (.int a1), some (.int a2), some (.int a3)] (r.toList ++ []) τ b) else False)) : h_X7_findMixed_82 d F b I L z a1 a2 a3 s1 s0 :=
  (xgo b_X7_findMixed_82 h)
set_option maxRecDepth 100000 in
theorem g_X7_findMixed_95 {d : Nat} {F : xQ} {b : Nat × Nat} {I : xI} {L : xL} {z : Bool × Bool × Nat} {a1 : Int32} {a2 : Int32} {a3 : Int32} {s0 : Int32} (hd : 0 ≤ d) (h : h_X7_findMixed_58 d F b I L z a1 s0 (a3 + 1)) : h_X7_findMixed_95 d F b I L z a1 a2 a3 s0 :=
  (xgo b_X7_findMixed_95 h)
def h_X7_stepMixed_0 (d : Nat) (F : xQ) (b : Nat × Nat) (I : xI) (L : xL) (z : Bool × Bool × Nat) (a1 : Int32) : Prop := xEX k_X7_stepMixed 2 (xCd d) F 0 [some (.ref 37), some (.int a1), none, none, none, none, none, none] [] (xS I L z) b
def h_X7_stepMixed_15 (d : Nat) (F : xQ) (b : Nat × Nat) (I : xI) (L : xL) (z : Bool × Bool × Nat) (a1 : Int32) (a2 : Int32) : Prop := xEX k_X7_stepMixed 2 (xCd d) F 15 [some (.ref 37), some (.int a1), some (.int a2), none, none, none, none, none] [] (xS I L z) b
def h_X7_stepMixed_52 (d : Nat) (F : xQ) (b : Nat × Nat) (I : xI) (L : xL) (z : Bool × Bool × Nat) (a1 : Int32) (a2 : Int32) (a3 : Int32) : Prop := xEX k_X7_stepMixed 2 (xCd d) F 52 [some (.ref 37), some (.int a1), some (.int a2), some (.int a3), none, none, none, none] [] (xS I L z) b
def h_X7_stepMixed_116 (d : Nat) (F : xQ) (b : Nat × Nat) (I : xI) (L : xL) (z : Bool × Bool × Nat) (a1 : Int32) (a2 : Int32) (a3 : Int32) (a4 : Int32) (a5 : Int32) (a6 : Int32) : Prop := xEX k_X7_stepMixed 2 (xCd d) F 116 [some (.ref 37), some (.int a1), some (.int a2), some (.int a3), some (.int a4), some (.int a5), some (.int a6), none] [] (xS I L z) b
set_option maxRecDepth 100000 in
theorem g_X7_stepMixed_0 {d : Nat} {F : xQ} {b : Nat × Nat} {I : xI} {L : xL} {z : Bool × Bool × Nat} {a1 : Int32} (hd : 0 ≤ d) (h : (if 6 < a1 then F (some (.int 0)) (xS I L z) else h_X7_stepMixed_15 d F b I L z a1 (a1 - 2))) : h_X7_stepMixed_0 d F b I L z a1 :=
  (xgo b_X7_stepMixed_0 h)
theorem c_X7_stepMixed {d : Nat} {F : xQ} {I : xI} {L : xL} {z : Bool × Bool × Nat} {a1 : Int32} (h : h_X7_stepMixed_0 d F (0, 0) I L z a1) : xCd (d + 1) 116 [.ref 37, .int a1] (xS I L z) F :=
  xin_ (T := k_X7_stepMixed) (rt := 2) (ls := [some (.ref 37), some (.int a1), none, none, none, none, none, none]) rfl rfl rfl rfl h
set_option maxRecDepth 100000 in
theorem g_X7_stepMixed_15 {d : Nat} {F : xQ} {b : Nat × Nat} {I : xI} {L : xL} {z : Bool × Bool × Nat} {a1 : Int32} {a2 : Int32} (hd : 0 ≤ d) (h : (if a2 < 0 then F (some (.int 0)) (xS I L z) else (if xin a2 (6) then (if xin (a2 + 1) (6) then (if (I 41 (Int32.toNatClampNeg a2)) < (I 41 (Int32.toNatClampNeg (a2 + 1))) then h_X7_stepMixed_52 d F b I L z a1 a2 (a1 - 1) else h_X7_stepMixed_15 d F b I L z a1 (a2 + (-1 : Int32))) else False) else False))) : h_X7_stepMixed_15 d F b I L z a1 a2 :=
  (xgo b_X7_stepMixed_15 (xite (fun c1155 h1155 => (xitT c1155 h1155)) (fun c1155 h1155 => (xite (fun c1156 h1156 => (xite (fun c1157 h1157 => (xite (fun c1158 h1158 => (xitF c1155 h1158)) (fun c1158 h1158 => h1158) h1157)) (fun c1157 h1157 => h1157) h1156)) (fun c1156 h1156 => h1156) h1155)) h))
set_option maxRecDepth 100000 in
theorem g_X7_stepMixed_52 {d : Nat} {F : xQ} {b : Nat × Nat} {I : xI} {L : xL} {z : Bool × Bool × Nat} {a1 : Int32} {a2 : Int32} {a3 : Int32} (hd : 0 ≤ d) (h : (if a2 < a3 then (if xin a3 (6) then (if xin a2 (6) then (if (I 41 (Int32.toNatClampNeg a2)) < (I 41 (Int32.toNatClampNeg a3)) then h_X7_stepMixed_116 d F b (xw (xw I 41 (Int32.toNatClampNeg a3) (I 41 (Int32.toNatClampNeg a2))) 41 (Int32.toNatClampNeg a2) (I 41 (Int32.toNatClampNeg a3))) L z a1 a2 a3 (I 41 (Int32.toNatClampNeg a3)) (a1 - 1) (a2 + 1) else h_X7_stepMixed_52 d F b I L z a1 a2 (a3 + (-1 : Int32))) else False) else False) else (if xin a3 (6) then (if xin a2 (6) then h_X7_stepMixed_116 d F b (xw (xw I 41 (Int32.toNatClampNeg a3) (I 41 (Int32.toNatClampNeg a2))) 41 (Int32.toNatClampNeg a2) (I 41 (Int32.toNatClampNeg a3))) L z a1 a2 a3 (I 41 (Int32.toNatClampNeg a3)) (a1 - 1) (a2 + 1) else False) else False))) : h_X7_stepMixed_52 d F b I L z a1 a2 a3 :=
  (xgo b_X7_stepMixed_52 (xite (fun c1159 h1159 => (xite (fun c1160 h1160 => (xite (fun c1161 h1161 => (xite (fun c1162 h1162 => (xgo b_X7_stepMixed_78 (xitT c1160 (xitT c1161 (xitT c1160 (xitT c1161 h1162)))))) (fun c1162 h1162 => h1162) h1161)) (fun c1161 h1161 => h1161) h1160)) (fun c1160 h1160 => h1160) h1159)) (fun c1159 h1159 => (xgo b_X7_stepMixed_78 (xite (fun c1163 h1163 => (xite (fun c1164 h1164 => (xitT c1163 (xitT c1164 h1164))) (fun c1164 h1164 => h1164) h1163)) (fun c1163 h1163 => h1163) h1159))) h))
set_option maxRecDepth 100000 in
theorem g_X7_stepMixed_116 {d : Nat} {F : xQ} {b : Nat × Nat} {I : xI} {L : xL} {z : Bool × Bool × Nat} {a1 : Int32} {a2 : Int32} {a3 : Int32} {a4 : Int32} {a5 : Int32} {a6 : Int32} (hd : 0 ≤ d) (h : (if a6 < a5 then (if xin a6 (6) then (if xin a5 (6) then h_X7_stepMixed_116 d F b (xw (xw I 41 (Int32.toNatClampNeg a6) (I 41 (Int32.toNatClampNeg a5))) 41 (Int32.toNatClampNeg a5) (I 41 (Int32.toNatClampNeg a6))) L z a1 a2 a3 a4 (a5 + (-1 : Int32)) (a6 + 1) else False) else False) else F (some (.int 1)) (xS I L z))) : h_X7_stepMixed_116 d F b I L z a1 a2 a3 a4 a5 a6 :=
  (xgo b_X7_stepMixed_116 (xite (fun c1165 h1165 => (xite (fun c1166 h1166 => (xite (fun c1167 h1167 => (xitT c1166 (xitT c1167 (xwk (ls := [some (.ref 37), some (.int a1), some (.int a2), some (.int a3), some (.int a4), some (.int (a5 + (-1 : Int32))), some (.int (a6 + 1)), none]) ⟨⟨rfl, ⟨rfl, ⟨rfl, ⟨rfl, ⟨rfl, ⟨rfl, ⟨rfl, trivial⟩⟩⟩⟩⟩⟩⟩, rfl⟩ h1167)))) (fun c1167 h1167 => h1167) h1166)) (fun c1166 h1166 => h1166) h1165)) (fun c1165 h1165 => h1165) h))
def h_X7_findTurned_0 (d : Nat) (F : xQ) (b : Nat × Nat) (I : xI) (L : xL) (z : Bool × Bool × Nat) (a1 : Int32) : Prop := xEX k_X7_findTurned 0 (xCd d) F 0 [some (.ref 37), some (.int a1), none, none] [] (xS I L z) b
def h_X7_findTurned_2 (d : Nat) (F : xQ) (b : Nat × Nat) (I : xI) (L : xL) (z : Bool × Bool × Nat) (a1 : Int32) (a2 : Int32) : Prop := xEX k_X7_findTurned 0 (xCd d) F 2 [some (.ref 37), some (.int a1), some (.int a2), none] [] (xS I L z) b
def h_X7_findTurned_9 (d : Nat) (F : xQ) (b : Nat × Nat) (I : xI) (L : xL) (z : Bool × Bool × Nat) (a1 : Int32) (a2 : Int32) (a3 : Int32) : Prop := xEX k_X7_findTurned 0 (xCd d) F 9 [some (.ref 37), some (.int a1), some (.int a2), some (.int a3)] [] (xS I L z) b
def h_X7_findTurned_64 (d : Nat) (F : xQ) (b : Nat × Nat) (I : xI) (L : xL) (z : Bool × Bool × Nat) (a1 : Int32) (a2 : Int32) (a3 : Int32) (s0 : Int32) : Prop := xEX k_X7_findTurned 0 (xCd d) F 64 [some (.ref 37), some (.int a1), some (.int a2), some (.int a3)] [.int s0] (xS I L z) b
def h_X7_findTurned_70 (d : Nat) (F : xQ) (b : Nat × Nat) (I : xI) (L : xL) (z : Bool × Bool × Nat) (a1 : Int32) (a2 : Int32) (a3 : Int32) (s0 : Int32) : Prop := xEX k_X7_findTurned 0 (xCd d) F 70 [some (.ref 37), some (.int a1), some (.int a2), some (.int a3)] [.int s0] (xS I L z) b
def h_X7_findTurned_78 (d : Nat) (F : xQ) (b : Nat × Nat) (I : xI) (L : xL) (z : Bool × Bool × Nat) (a1 : Int32) (a2 : Int32) (a3 : Int32) : Prop := xEX k_X7_findTurned 0 (xCd d) F 78 [some (.ref 37), some (.int a1), some (.int a2), some (.int a3)] [] (xS I L z) b
set_option maxRecDepth 100000 in
theorem g_X7_findTurned_0 {d : Nat} {F : xQ} {b : Nat × Nat} {I : xI} {L : xL} {z : Bool × Bool × Nat} {a1 : Int32} (hd : 1 ≤ d) (h : h_X7_findTurned_2 d F b I L z a1 0) : h_X7_findTurned_0 d F b I L z a1 :=
  (xgo b_X7_findTurned_0 h)
theorem c_X7_findTurned {d : Nat} {F : xQ} {I : xI} {L : xL} {z : Bool × Bool × Nat} {a1 : Int32} (h : h_X7_findTurned_0 d F (0, 0) I L z a1) : xCd (d + 1) 117 [.ref 37, .int a1] (xS I L z) F :=
  xin_ (T := k_X7_findTurned) (rt := 0) (ls := [some (.ref 37), some (.int a1), none, none]) rfl rfl rfl rfl h
set_option maxRecDepth 100000 in
theorem g_X7_findTurned_2 {d : Nat} {F : xQ} {b : Nat × Nat} {I : xI} {L : xL} {z : Bool × Bool × Nat} {a1 : Int32} {a2 : Int32} (hd : 1 ≤ d) (h : (if a2 < a1 then h_X7_findTurned_9 d F b I L z a1 a2 0 else F none (xS I L z))) : h_X7_findTurned_2 d F b I L z a1 a2 :=
  (xgo b_X7_findTurned_2 h)
set_option maxRecDepth 100000 in
theorem g_X7_findTurned_9 {d : Nat} {F : xQ} {b : Nat × Nat} {I : xI} {L : xL} {z : Bool × Bool × Nat} {a1 : Int32} {a2 : Int32} {a3 : Int32} (hd : 1 ≤ d) (h : (if a3 < (I 10 0) then (if a3 < 6 then (if xin a3 (6) then h_X7_findTurned_9 d F b (xw I 41 (Int32.toNatClampNeg a3) (f_X6_pouredAndTurned I L a3 a2)) L z a1 a2 (a3 + 1) else False) else xCd d 113 [.ref 41, .int (I 10 0)] (xS I L z) (fun r τ => xEX k_X7_findTurned 0 (xCd d) F 64 [some (.ref 37), some (.int a1), some (.int a2), some (.int a3)] (r.toList ++ []) τ b)) else xCd d 113 [.ref 41, .int (I 10 0)] (xS I L z) (fun r τ => xEX k_X7_findTurned 0 (xCd d) F 64 [some (.ref 37), some (.int a1), some (.int a2), some (.int a3)] (r.toList ++ []) τ b))) : h_X7_findTurned_9 d F b I L z a1 a2 a3 :=
  (xgo b_X7_findTurned_9 (xite (fun c1182 h1182 => (xite (fun c1183 h1183 => (xuse1 s_X6_pouredAndTurned (Nat.le_trans (by decide) hd) (xgo b_X7_findTurned_43 h1183))) (fun c1183 h1183 => h1183) h1182)) (fun c1182 h1182 => h1182) h))
set_option maxRecDepth 100000 in
theorem g_X7_findTurned_64 {d : Nat} {F : xQ} {b : Nat × Nat} {I : xI} {L : xL} {z : Bool × Bool × Nat} {a1 : Int32} {a2 : Int32} {a3 : Int32} {s0 : Int32} (hd : 1 ≤ d) (h : xCd d 124 [.ref 37, .int s0] (xS I L z) (fun r τ => xEX k_X7_findTurned 0 (xCd d) F 70 [some (.ref 37), some (.int a1), some (.int a2), some (.int s0)] (r.toList ++ []) τ b)) : h_X7_findTurned_64 d F b I L z a1 a2 a3 s0 :=
  (xgo b_X7_findTurned_64 h)
set_option maxRecDepth 100000 in
theorem g_X7_findTurned_70 {d : Nat} {F : xQ} {b : Nat × Nat} {I : xI} {L : xL} {z : Bool × Bool × Nat} {a1 : Int32} {a2 : Int32} {a3 : Int32} {s0 : Int32} (hd : 1 ≤ d) (h : (if s0 = 0 then xCd d 118 [.ref 37, .int a3] (xS I L z) (fun r τ => xEX k_X7_findTurned 0 (xCd d) F 78 [some (.ref 37), some (.int a1), some (.int a2), some (.int a3)] (r.toList ++ []) τ b) else h_X7_findTurned_78 d F b I L z a1 a2 a3)) : h_X7_findTurned_70 d F b I L z a1 a2 a3 s0 :=
  (xgo b_X7_findTurned_70 h)
set_option maxRecDepth 100000 in
theorem g_X7_findTurned_78 {d : Nat} {F : xQ} {b : Nat × Nat} {I : xI} {L : xL} {z : Bool × Bool × Nat} {a1 : Int32} {a2 : Int32} {a3 : Int32} (hd : 1 ≤ d) (h : h_X7_findTurned_2 d F b I L z a1 (a2 + 1)) : h_X7_findTurned_78 d F b I L z a1 a2 a3 :=
  (xgo b_X7_findTurned_78 (xwk (ls := [some (.ref 37), some (.int a1), some (.int (a2 + 1)), none]) ⟨⟨rfl, ⟨rfl, ⟨rfl, trivial⟩⟩⟩, rfl⟩ h))
def h_X7_insertWorld_0 (d : Nat) (F : xQ) (b : Nat × Nat) (I : xI) (L : xL) (z : Bool × Bool × Nat) (a1 : Int32) : Prop := xEX k_X7_insertWorld 0 (xCd d) F 0 [some (.ref 37), some (.int a1), none] [] (xS I L z) b
def h_X7_insertWorld_19 (d : Nat) (F : xQ) (b : Nat × Nat) (I : xI) (L : xL) (z : Bool × Bool × Nat) (a1 : Int32) (a2 : Int32) : Prop := xEX k_X7_insertWorld 0 (xCd d) F 19 [some (.ref 37), some (.int a1), some (.int a2)] [] (xS I L z) b
set_option maxRecDepth 100000 in
theorem g_X7_insertWorld_0 {d : Nat} {F : xQ} {b : Nat × Nat} {I : xI} {L : xL} {z : Bool × Bool × Nat} {a1 : Int32} (hd : 0 ≤ d) (h : (if (I 37 0) < 0 then F none (xS I L z) else (if (I 37 0) < 720 then h_X7_insertWorld_19 d F b I L z a1 (I 37 0) else F none (xS I L z)))) : h_X7_insertWorld_0 d F b I L z a1 :=
  (xgo b_X7_insertWorld_0 h)
theorem c_X7_insertWorld {d : Nat} {F : xQ} {I : xI} {L : xL} {z : Bool × Bool × Nat} {a1 : Int32} (h : h_X7_insertWorld_0 d F (0, 0) I L z a1) : xCd (d + 1) 118 [.ref 37, .int a1] (xS I L z) F :=
  xin_ (T := k_X7_insertWorld) (rt := 0) (ls := [some (.ref 37), some (.int a1), none]) rfl rfl rfl rfl h
set_option maxRecDepth 100000 in
theorem g_X7_insertWorld_19 {d : Nat} {F : xQ} {b : Nat × Nat} {I : xI} {L : xL} {z : Bool × Bool × Nat} {a1 : Int32} {a2 : Int32} (hd : 0 ≤ d) (h : (if 0 < a2 then (if xin (a2 - 1) (720) then (if a1 < (I 38 (Int32.toNatClampNeg (a2 - 1))) then (if xin a2 (720) then h_X7_insertWorld_19 d F b (xw I 38 (Int32.toNatClampNeg a2) (I 38 (Int32.toNatClampNeg (a2 - 1)))) L z a1 (a2 + (-1 : Int32)) else False) else (if xin a2 (720) then F none (xS (xw (xw I 38 (Int32.toNatClampNeg a2) a1) 37 0 (((xw I 38 (Int32.toNatClampNeg a2) a1) 37 0) + 1)) L z) else False)) else False) else (if xin a2 (720) then F none (xS (xw (xw I 38 (Int32.toNatClampNeg a2) a1) 37 0 (((xw I 38 (Int32.toNatClampNeg a2) a1) 37 0) + 1)) L z) else False))) : h_X7_insertWorld_19 d F b I L z a1 a2 :=
  (xgo b_X7_insertWorld_19 (xite (fun c1188 h1188 => (xite (fun c1189 h1189 => (xite (fun c1190 h1190 => (xitT c1189 h1190)) (fun c1190 h1190 => h1190) h1189)) (fun c1189 h1189 => h1189) h1188)) (fun c1188 h1188 => h1188) h))
def h_X7_findPossible_0 (d : Nat) (F : xQ) (b : Nat × Nat) (I : xI) (L : xL) (z : Bool × Bool × Nat)  : Prop := xEX k_X7_findPossible 0 (xCd d) F 0 [some (.ref 37), none, none] [] (xS I L z) b
def h_X7_findPossible_9 (d : Nat) (F : xQ) (b : Nat × Nat) (I : xI) (L : xL) (z : Bool × Bool × Nat)  : Prop := xEX k_X7_findPossible 0 (xCd d) F 9 [some (.ref 37), none, none] [] (xS I L z) b
def h_X7_findPossible_11 (d : Nat) (F : xQ) (b : Nat × Nat) (I : xI) (L : xL) (z : Bool × Bool × Nat) (a1 : Int32) : Prop := xEX k_X7_findPossible 0 (xCd d) F 11 [some (.ref 37), some (.int a1), none] [] (xS I L z) b
def h_X7_findPossible_59 (d : Nat) (F : xQ) (b : Nat × Nat) (I : xI) (L : xL) (z : Bool × Bool × Nat) (a1 : Int32) (a2 : Int32) (s2 : Int32) (s1 : Int32) (s0 : Int32) : Prop := xEX k_X7_findPossible 0 (xCd d) F 59 [some (.ref 37), some (.int a1), some (.int a2)] [.int s0, .int s1, .int s2, .ref 42] (xS I L z) b
def h_X7_findPossible_75 (d : Nat) (F : xQ) (b : Nat × Nat) (I : xI) (L : xL) (z : Bool × Bool × Nat) (a1 : Int32) : Prop := xEX k_X7_findPossible 0 (xCd d) F 75 [some (.ref 37), some (.int a1), none] [] (xS I L z) b
def h_X7_findPossible_82 (d : Nat) (F : xQ) (b : Nat × Nat) (I : xI) (L : xL) (z : Bool × Bool × Nat) (a1 : Int32) : Prop := xEX k_X7_findPossible 0 (xCd d) F 82 [some (.ref 37), some (.int a1), none] [] (xS I L z) b
def h_X7_findPossible_109 (d : Nat) (F : xQ) (b : Nat × Nat) (I : xI) (L : xL) (z : Bool × Bool × Nat) (a1 : Int32) (s0 : Int32) : Prop := xEX k_X7_findPossible 0 (xCd d) F 109 [some (.ref 37), some (.int a1), none] [.int s0] (xS I L z) b
def h_X7_findPossible_122 (d : Nat) (F : xQ) (b : Nat × Nat) (I : xI) (L : xL) (z : Bool × Bool × Nat) (a1 : Int32) : Prop := xEX k_X7_findPossible 0 (xCd d) F 122 [some (.ref 37), some (.int a1), none] [] (xS I L z) b
set_option maxRecDepth 100000 in
theorem g_X7_findPossible_0 {d : Nat} {F : xQ} {b : Nat × Nat} {I : xI} {L : xL} {z : Bool × Bool × Nat}  (hd : 1 ≤ d) (h : xCd d 302 [.ref 42, .int 63] (xS I L z) (fun r τ => xEX k_X7_findPossible 0 (xCd d) F 9 [some (.ref 37), none, none] (r.toList ++ []) τ b)) : h_X7_findPossible_0 d F b I L z  :=
  (xgo b_X7_findPossible_0 h)
theorem c_X7_findPossible {d : Nat} {F : xQ} {I : xI} {L : xL} {z : Bool × Bool × Nat}  (h : h_X7_findPossible_0 d F (0, 0) I L z ) : xCd (d + 1) 119 [.ref 37] (xS I L z) F :=
  xin_ (T := k_X7_findPossible) (rt := 0) (ls := [some (.ref 37), none, none]) rfl rfl rfl rfl h
set_option maxRecDepth 100000 in
theorem g_X7_findPossible_9 {d : Nat} {F : xQ} {b : Nat × Nat} {I : xI} {L : xL} {z : Bool × Bool × Nat}  (hd : 1 ≤ d) (h : h_X7_findPossible_11 d F b I L z 0) : h_X7_findPossible_9 d F b I L z  :=
  (xgo b_X7_findPossible_9 h)
set_option maxRecDepth 100000 in
theorem g_X7_findPossible_11 {d : Nat} {F : xQ} {b : Nat × Nat} {I : xI} {L : xL} {z : Bool × Bool × Nat} {a1 : Int32} (hd : 1 ≤ d) (h : (if a1 < (I 10 3) then (if (f_X6_placeOfSign I L a1) < 0 then h_X7_findPossible_11 d F b I L z (a1 + 1) else (if (f_X6_placeOfSign I L a1) < 6 then (if xin (f_X6_placeOfSign I L a1) (6) then xCd d 102 [.ref 10, .int a1] (xS I L z) (fun r τ => xEX k_X7_findPossible 0 (xCd d) F 59 [some (.ref 37), some (.int a1), some (.int (f_X6_placeOfSign I L a1))] (r.toList ++ [.int (I 42 (Int32.toNatClampNeg (f_X6_placeOfSign I L a1))), .int (f_X6_placeOfSign I L a1), .ref 42]) τ b) else False) else h_X7_findPossible_11 d F b I L z (a1 + 1))) else xCd d 302 [.ref 40, .int 0] (xS I L z) (fun r τ => xEX k_X7_findPossible 0 (xCd d) F 75 [some (.ref 37), some (.int a1), none] (r.toList ++ []) τ b))) : h_X7_findPossible_11 d F b I L z a1 :=
  (xgo b_X7_findPossible_11 (xite (fun c1211 h1211 => (xuse1 s_X6_placeOfSign (Nat.le_trans (by decide) hd) (xgo b_X7_findPossible_30 (xite (fun c1212 h1212 => (xwk (ls := [some (.ref 37), some (.int (a1 + 1)), none]) ⟨⟨rfl, ⟨rfl, trivial⟩⟩, rfl⟩ h1212)) (fun c1212 h1212 => (xite (fun c1213 h1213 => h1213) (fun c1213 h1213 => (xwk (ls := [some (.ref 37), some (.int (a1 + 1)), none]) ⟨⟨rfl, ⟨rfl, trivial⟩⟩, rfl⟩ h1213)) h1212)) h1211)))) (fun c1211 h1211 => h1211) h))
set_option maxRecDepth 100000 in
theorem g_X7_findPossible_59 {d : Nat} {F : xQ} {b : Nat × Nat} {I : xI} {L : xL} {z : Bool × Bool × Nat} {a1 : Int32} {a2 : Int32} {s2 : Int32} {s1 : Int32} {s0 : Int32} (hd : 1 ≤ d) (h : (if xin s2 (6) then h_X7_findPossible_11 d F b (xw I 42 (Int32.toNatClampNeg s2) (s1 &&& s0)) L z (a1 + 1) else False)) : h_X7_findPossible_59 d F b I L z a1 a2 s2 s1 s0 :=
  (xgo b_X7_findPossible_59 (xite (fun c1215 h1215 => (xwk (ls := [some (.ref 37), some (.int (a1 + 1)), none]) ⟨⟨rfl, ⟨rfl, trivial⟩⟩, rfl⟩ h1215)) (fun c1215 h1215 => h1215) h))
set_option maxRecDepth 100000 in
theorem g_X7_findPossible_75 {d : Nat} {F : xQ} {b : Nat × Nat} {I : xI} {L : xL} {z : Bool × Bool × Nat} {a1 : Int32} (hd : 1 ≤ d) (h : h_X7_findPossible_82 d F b (xw I 37 1 0) L z 0) : h_X7_findPossible_75 d F b I L z a1 :=
  (xgo b_X7_findPossible_75 h)
set_option maxRecDepth 100000 in
theorem g_X7_findPossible_82 {d : Nat} {F : xQ} {b : Nat × Nat} {I : xI} {L : xL} {z : Bool × Bool × Nat} {a1 : Int32} (hd : 1 ≤ d) (h : (if a1 < (I 37 0) then (if a1 < 720 then (if xin a1 (720) then xCd d 120 [.ref 37, .int (I 38 (Int32.toNatClampNeg a1))] (xS I L z) (fun r τ => xEX k_X7_findPossible 0 (xCd d) F 109 [some (.ref 37), some (.int a1), none] (r.toList ++ []) τ b) else False) else F none (xS I L z)) else F none (xS I L z))) : h_X7_findPossible_82 d F b I L z a1 :=
  (xgo b_X7_findPossible_82 h)
set_option maxRecDepth 100000 in
theorem g_X7_findPossible_109 {d : Nat} {F : xQ} {b : Nat × Nat} {I : xI} {L : xL} {z : Bool × Bool × Nat} {a1 : Int32} {s0 : Int32} (hd : 1 ≤ d) (h : (if s0 = 0 then h_X7_findPossible_122 d F b I L z a1 else (if xin a1 (720) then xCd d 121 [.ref 37, .int (I 38 (Int32.toNatClampNeg a1))] (xS I L z) (fun r τ => xEX k_X7_findPossible 0 (xCd d) F 122 [some (.ref 37), some (.int a1), none] (r.toList ++ []) τ b) else False))) : h_X7_findPossible_109 d F b I L z a1 s0 :=
  (xgo b_X7_findPossible_109 h)
set_option maxRecDepth 100000 in
theorem g_X7_findPossible_122 {d : Nat} {F : xQ} {b : Nat × Nat} {I : xI} {L : xL} {z : Bool × Bool × Nat} {a1 : Int32} (hd : 1 ≤ d) (h : h_X7_findPossible_82 d F b I L z (a1 + 1)) : h_X7_findPossible_122 d F b I L z a1 :=
  (xgo b_X7_findPossible_122 h)
def h_X7_isAllowed_0 (d : Nat) (F : xQ) (b : Nat × Nat) (I : xI) (L : xL) (z : Bool × Bool × Nat) (a1 : Int32) : Prop := xEX k_X7_isAllowed 2 (xCd d) F 0 [some (.ref 37), some (.int a1), none] [] (xS I L z) b
def h_X7_isAllowed_2 (d : Nat) (F : xQ) (b : Nat × Nat) (I : xI) (L : xL) (z : Bool × Bool × Nat) (a1 : Int32) (a2 : Int32) : Prop := xEX k_X7_isAllowed 2 (xCd d) F 2 [some (.ref 37), some (.int a1), some (.int a2)] [] (xS I L z) b
set_option maxRecDepth 100000 in
theorem g_X7_isAllowed_0 {d : Nat} {F : xQ} {b : Nat × Nat} {I : xI} {L : xL} {z : Bool × Bool × Nat} {a1 : Int32} (hd : 0 ≤ d) (h : h_X7_isAllowed_2 d F b I L z a1 0) : h_X7_isAllowed_0 d F b I L z a1 :=
  (xgo b_X7_isAllowed_0 h)
theorem c_X7_isAllowed {d : Nat} {F : xQ} {I : xI} {L : xL} {z : Bool × Bool × Nat} {a1 : Int32} (h : h_X7_isAllowed_0 d F (0, 0) I L z a1) : xCd (d + 1) 120 [.ref 37, .int a1] (xS I L z) F :=
  xin_ (T := k_X7_isAllowed) (rt := 2) (ls := [some (.ref 37), some (.int a1), none]) rfl rfl rfl rfl h
set_option maxRecDepth 100000 in
theorem g_X7_isAllowed_2 {d : Nat} {F : xQ} {b : Nat × Nat} {I : xI} {L : xL} {z : Bool × Bool × Nat} {a1 : Int32} {a2 : Int32} (hd : 0 ≤ d) (h : (if a2 < (I 10 0) then (if a2 < 6 then (if xin a2 (6) then (if (((I 42 (Int32.toNatClampNeg a2)) >>> (((a1 >>> ((I 2 (Int32.toNatClampNeg a2)) &&& 31)) &&& 7) &&& 31)) &&& 1) = 0 then F (some (.int 0)) (xS I L z) else h_X7_isAllowed_2 d F b I L z a1 (a2 + 1)) else False) else F (some (.int 1)) (xS I L z)) else F (some (.int 1)) (xS I L z))) : h_X7_isAllowed_2 d F b I L z a1 a2 :=
  (xgo b_X7_isAllowed_2 (xite (fun c1221 h1221 => (xite (fun c1222 h1222 => (xite (fun c1223 h1223 => (xitT c1223 h1223)) (fun c1223 h1223 => h1223) h1222)) (fun c1222 h1222 => h1222) h1221)) (fun c1221 h1221 => h1221) h))
def h_X7_takePossible_0 (d : Nat) (F : xQ) (b : Nat × Nat) (I : xI) (L : xL) (z : Bool × Bool × Nat) (a1 : Int32) : Prop := xEX k_X7_takePossible 0 (xCd d) F 0 [some (.ref 37), some (.int a1), none] [] (xS I L z) b
def h_X7_takePossible_35 (d : Nat) (F : xQ) (b : Nat × Nat) (I : xI) (L : xL) (z : Bool × Bool × Nat) (a1 : Int32) (a2 : Int32) : Prop := xEX k_X7_takePossible 0 (xCd d) F 35 [some (.ref 37), some (.int a1), some (.int a2)] [] (xS I L z) b
set_option maxRecDepth 100000 in
theorem g_X7_takePossible_0 {d : Nat} {F : xQ} {b : Nat × Nat} {I : xI} {L : xL} {z : Bool × Bool × Nat} {a1 : Int32} (hd : 0 ≤ d) (h : (if (I 37 1) < 720 then (if xin (I 37 1) (720) then h_X7_takePossible_35 d F b (xw (xw I 39 (Int32.toNatClampNeg (I 37 1)) a1) 37 1 (((xw I 39 (Int32.toNatClampNeg (I 37 1)) a1) 37 1) + 1)) L z a1 0 else False) else F none (xS I L z))) : h_X7_takePossible_0 d F b I L z a1 :=
  (xgo b_X7_takePossible_0 h)
theorem c_X7_takePossible {d : Nat} {F : xQ} {I : xI} {L : xL} {z : Bool × Bool × Nat} {a1 : Int32} (h : h_X7_takePossible_0 d F (0, 0) I L z a1) : xCd (d + 1) 121 [.ref 37, .int a1] (xS I L z) F :=
  xin_ (T := k_X7_takePossible) (rt := 0) (ls := [some (.ref 37), some (.int a1), none]) rfl rfl rfl rfl h
set_option maxRecDepth 100000 in
theorem g_X7_takePossible_35 {d : Nat} {F : xQ} {b : Nat × Nat} {I : xI} {L : xL} {z : Bool × Bool × Nat} {a1 : Int32} {a2 : Int32} (hd : 0 ≤ d) (h : (if a2 < (I 10 0) then (if a2 < 6 then (if xin a2 (6) then (if xin ((a2 * 8) + ((a1 >>> ((I 2 (Int32.toNatClampNeg a2)) &&& 31)) &&& 7)) (48) then h_X7_takePossible_35 d F b (xw I 40 (Int32.toNatClampNeg ((a2 * 8) + ((a1 >>> ((I 2 (Int32.toNatClampNeg a2)) &&& 31)) &&& 7))) ((I 40 (Int32.toNatClampNeg ((a2 * 8) + ((a1 >>> ((I 2 (Int32.toNatClampNeg a2)) &&& 31)) &&& 7)))) + 1)) L z a1 (a2 + 1) else False) else False) else F none (xS I L z)) else F none (xS I L z))) : h_X7_takePossible_35 d F b I L z a1 a2 :=
  (xgo b_X7_takePossible_35 (xite (fun c1227 h1227 => (xite (fun c1228 h1228 => (xite (fun c1229 h1229 => (xite (fun c1230 h1230 => (xitT c1230 h1230)) (fun c1230 h1230 => h1230) h1229)) (fun c1229 h1229 => h1229) h1228)) (fun c1228 h1228 => h1228) h1227)) (fun c1227 h1227 => h1227) h))
def h_X7_isWorld_0 (d : Nat) (F : xQ) (b : Nat × Nat) (I : xI) (L : xL) (z : Bool × Bool × Nat) (a1 : Int32) : Prop := xEX k_X7_isWorld 2 (xCd d) F 0 [some (.ref 37), some (.int a1), none] [] (xS I L z) b
def h_X7_isWorld_2 (d : Nat) (F : xQ) (b : Nat × Nat) (I : xI) (L : xL) (z : Bool × Bool × Nat) (a1 : Int32) (a2 : Int32) : Prop := xEX k_X7_isWorld 2 (xCd d) F 2 [some (.ref 37), some (.int a1), some (.int a2)] [] (xS I L z) b
set_option maxRecDepth 100000 in
theorem g_X7_isWorld_0 {d : Nat} {F : xQ} {b : Nat × Nat} {I : xI} {L : xL} {z : Bool × Bool × Nat} {a1 : Int32} (hd : 0 ≤ d) (h : h_X7_isWorld_2 d F b I L z a1 0) : h_X7_isWorld_0 d F b I L z a1 :=
  (xgo b_X7_isWorld_0 h)
theorem c_X7_isWorld {d : Nat} {F : xQ} {I : xI} {L : xL} {z : Bool × Bool × Nat} {a1 : Int32} (h : h_X7_isWorld_0 d F (0, 0) I L z a1) : xCd (d + 1) 124 [.ref 37, .int a1] (xS I L z) F :=
  xin_ (T := k_X7_isWorld) (rt := 2) (ls := [some (.ref 37), some (.int a1), none]) rfl rfl rfl rfl h
set_option maxRecDepth 100000 in
theorem g_X7_isWorld_2 {d : Nat} {F : xQ} {b : Nat × Nat} {I : xI} {L : xL} {z : Bool × Bool × Nat} {a1 : Int32} {a2 : Int32} (hd : 0 ≤ d) (h : (if a2 < (I 37 0) then (if a2 < 720 then (if xin a2 (720) then (if (I 38 (Int32.toNatClampNeg a2)) = a1 then F (some (.int 1)) (xS I L z) else h_X7_isWorld_2 d F b I L z a1 (a2 + 1)) else False) else F (some (.int 0)) (xS I L z)) else F (some (.int 0)) (xS I L z))) : h_X7_isWorld_2 d F b I L z a1 a2 :=
  (xgo b_X7_isWorld_2 h)
def h_X7_howManyHave_0 (d : Nat) (F : xQ) (b : Nat × Nat) (I : xI) (L : xL) (z : Bool × Bool × Nat) (a1 : Int32) (a2 : Int32) (a3 : Int32) : Prop := xEX k_X7_howManyHave 1 (xCd d) F 0 [some (.ref 37), some (.int a1), some (.int a2), some (.int a3), none, none] [] (xS I L z) b
def h_X7_howManyHave_6 (d : Nat) (F : xQ) (b : Nat × Nat) (I : xI) (L : xL) (z : Bool × Bool × Nat) (a1 : Int32) (a2 : Int32) (a3 : Int32) (a4 : Int32) (a5 : Int32) : Prop := xEX k_X7_howManyHave 1 (xCd d) F 6 [some (.ref 37), some (.int a1), some (.int a2), some (.int a3), some (.int a4), some (.int a5)] [] (xS I L z) b
set_option maxRecDepth 100000 in
theorem g_X7_howManyHave_0 {d : Nat} {F : xQ} {b : Nat × Nat} {I : xI} {L : xL} {z : Bool × Bool × Nat} {a1 : Int32} {a2 : Int32} {a3 : Int32} (hd : 1 ≤ d) (h : h_X7_howManyHave_6 d F b I L z a1 a2 a3 0 0) : h_X7_howManyHave_0 d F b I L z a1 a2 a3 :=
  (xgo b_X7_howManyHave_0 h)
theorem c_X7_howManyHave {d : Nat} {F : xQ} {I : xI} {L : xL} {z : Bool × Bool × Nat} {a1 : Int32} {a2 : Int32} {a3 : Int32} (h : h_X7_howManyHave_0 d F (0, 0) I L z a1 a2 a3) : xCd (d + 1) 126 [.ref 37, .int a1, .int a2, .int a3] (xS I L z) F :=
  xin_ (T := k_X7_howManyHave) (rt := 1) (ls := [some (.ref 37), some (.int a1), some (.int a2), some (.int a3), none, none]) rfl rfl rfl rfl h
set_option maxRecDepth 100000 in
theorem g_X7_howManyHave_6 {d : Nat} {F : xQ} {b : Nat × Nat} {I : xI} {L : xL} {z : Bool × Bool × Nat} {a1 : Int32} {a2 : Int32} {a3 : Int32} {a4 : Int32} {a5 : Int32} (hd : 1 ≤ d) (h : (if a5 < 6 then (if (f_X6_numberOf I L a2 a5) = a3 then h_X7_howManyHave_6 d F b I L z a1 a2 a3 (a4 + (f_X7_howManyStand I L a1 a5)) (a5 + 1) else h_X7_howManyHave_6 d F b I L z a1 a2 a3 a4 (a5 + 1)) else F (some (.int a4)) (xS I L z))) : h_X7_howManyHave_6 d F b I L z a1 a2 a3 a4 a5 :=
  (xgo b_X7_howManyHave_6 (xite (fun c1235 h1235 => (xuse1 s_X6_numberOf (Nat.le_trans (by decide) hd) (xgo b_X7_howManyHave_23 (xite (fun c1236 h1236 => (xuse1 s_X7_howManyStand (Nat.le_trans (by decide) hd) (xgo b_X7_howManyHave_36 h1236))) (fun c1236 h1236 => h1236) h1235)))) (fun c1235 h1235 => h1235) h))
def h_X7_sortsAt_0 (d : Nat) (F : xQ) (b : Nat × Nat) (I : xI) (L : xL) (z : Bool × Bool × Nat) (a1 : Int32) : Prop := xEX k_X7_sortsAt 1 (xCd d) F 0 [some (.ref 37), some (.int a1), none, none] [] (xS I L z) b
def h_X7_sortsAt_4 (d : Nat) (F : xQ) (b : Nat × Nat) (I : xI) (L : xL) (z : Bool × Bool × Nat) (a1 : Int32) (a2 : Int32) (a3 : Int32) : Prop := xEX k_X7_sortsAt 1 (xCd d) F 4 [some (.ref 37), some (.int a1), some (.int a2), some (.int a3)] [] (xS I L z) b
set_option maxRecDepth 100000 in
theorem g_X7_sortsAt_0 {d : Nat} {F : xQ} {b : Nat × Nat} {I : xI} {L : xL} {z : Bool × Bool × Nat} {a1 : Int32} (hd : 1 ≤ d) (h : h_X7_sortsAt_4 d F b I L z a1 0 0) : h_X7_sortsAt_0 d F b I L z a1 :=
  (xgo b_X7_sortsAt_0 h)
theorem c_X7_sortsAt {d : Nat} {F : xQ} {I : xI} {L : xL} {z : Bool × Bool × Nat} {a1 : Int32} (h : h_X7_sortsAt_0 d F (0, 0) I L z a1) : xCd (d + 1) 127 [.ref 37, .int a1] (xS I L z) F :=
  xin_ (T := k_X7_sortsAt) (rt := 1) (ls := [some (.ref 37), some (.int a1), none, none]) rfl rfl rfl rfl h
set_option maxRecDepth 100000 in
theorem g_X7_sortsAt_4 {d : Nat} {F : xQ} {b : Nat × Nat} {I : xI} {L : xL} {z : Bool × Bool × Nat} {a1 : Int32} {a2 : Int32} {a3 : Int32} (hd : 1 ≤ d) (h : (if a3 < 6 then (if 0 < (f_X7_howManyStand I L a1 a3) then h_X7_sortsAt_4 d F b I L z a1 (a2 ||| (1 <<< (a3 &&& 31))) (a3 + 1) else h_X7_sortsAt_4 d F b I L z a1 a2 (a3 + 1)) else F (some (.int a2)) (xS I L z))) : h_X7_sortsAt_4 d F b I L z a1 a2 a3 :=
  (xgo b_X7_sortsAt_4 (xite (fun c1237 h1237 => (xuse1 s_X7_howManyStand (Nat.le_trans (by decide) hd) (xgo b_X7_sortsAt_16 h1237))) (fun c1237 h1237 => h1237) h))
