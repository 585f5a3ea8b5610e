set_option maxRecDepth 100000 in
theorem b_X5_sayingOf_0 {C : xC} {Q : xQ} {K : xK} {I : xI} {L : xL} {z : Bool × Bool × Nat} {b : Nat × Nat} {a1 : Int32} :
  xrun k_X5_sayingOf 1 C Q [21, 69, 74, 79, 85, 95, 100, 105] K 9 0 [some (.ref 56), some (.int a1)] [] (xS I L z) b =
  (if 1 < (I 37 1) then C 84 [.ref 10, .int a1] (xS I L z) (fun r τ => K 21 [some (.ref 56), some (.int a1)] (r.toList ++ []) τ b) else Q (some (.int (-1 : Int32))) (xS I L z)) := rfl
set_option maxRecDepth 100000 in
theorem b_X5_sayingOf_21 {C : xC} {Q : xQ} {K : xK} {I : xI} {L : xL} {z : Bool × Bool × Nat} {b : Nat × Nat} {a1 : Int32} {s0 : Int32} :
  xrun k_X5_sayingOf 1 C Q [21, 69, 74, 79, 85, 95, 100, 105] K 6 21 [some (.ref 56), some (.int a1)] [.int s0] (xS I L z) b =
  (if s0 = 0 then C 85 [.ref 10, .int a1] (xS I L z) (fun r τ => K 69 [some (.ref 56), some (.int a1)] (r.toList ++ [.ref 56]) τ b) else (if s0 = 1 then C 77 [.ref 56] (xS I L z) (fun r τ => K 79 [some (.ref 56), some (.int a1)] (r.toList ++ []) τ b) else (if s0 = 2 then C 76 [.ref 56, .int 3] (xS I L z) (fun r τ => K 85 [some (.ref 56), some (.int a1)] (r.toList ++ []) τ b) else (if s0 = 3 then C 20 [.ref 43, .int 7] (xS I L z) (fun r τ => K 95 [some (.ref 56), some (.int a1)] (r.toList ++ []) τ b) else (if s0 = 4 then C 78 [.ref 56] (xS I L z) (fun r τ => K 100 [some (.ref 56), some (.int a1)] (r.toList ++ []) τ b) else (if s0 = 5 then C 79 [.ref 56] (xS I L z) (fun r τ => K 105 [some (.ref 56), some (.int a1)] (r.toList ++ []) τ b) else Q (some (.int (-1 : Int32))) (xS I L z))))))) := rfl
set_option maxRecDepth 100000 in
theorem b_X5_sayingOf_69 {C : xC} {Q : xQ} {K : xK} {I : xI} {L : xL} {z : Bool × Bool × Nat} {b : Nat × Nat} {a1 : Int32} {s0 : Int32} :
  xrun k_X5_sayingOf 1 C Q [21, 69, 74, 79, 85, 95, 100, 105] K 3 69 [some (.ref 56), some (.int a1)] [.int s0, .ref 56] (xS I L z) b =
  C 76 [.ref 56, .int (s0 - s0 / 4 * 4)] (xS I L z) (fun r τ => K 74 [some (.ref 56), some (.int a1)] (r.toList ++ []) τ b) := rfl
set_option maxRecDepth 100000 in
theorem b_X5_sayingOf_79 {C : xC} {Q : xQ} {K : xK} {I : xI} {L : xL} {z : Bool × Bool × Nat} {b : Nat × Nat} {a1 : Int32} {s0 : Int32} :
  xrun k_X5_sayingOf 1 C Q [21, 69, 74, 79, 85, 95, 100, 105] K 1 79 [some (.ref 56), some (.int a1)] [.int s0] (xS I L z) b =
  Q (some (.int s0)) (xS I L z) := rfl
set_option maxRecDepth 100000 in
theorem b_X5_sayingOf_85 {C : xC} {Q : xQ} {K : xK} {I : xI} {L : xL} {z : Bool × Bool × Nat} {b : Nat × Nat} {a1 : Int32} {s0 : Int32} :
  xrun k_X5_sayingOf 1 C Q [21, 69, 74, 79, 85, 95, 100, 105] K 1 85 [some (.ref 56), some (.int a1)] [.int s0] (xS I L z) b =
  Q (some (.int s0)) (xS I L z) := rfl
set_option maxRecDepth 100000 in
theorem b_X5_sayingOf_95 {C : xC} {Q : xQ} {K : xK} {I : xI} {L : xL} {z : Bool × Bool × Nat} {b : Nat × Nat} {a1 : Int32} {s0 : Int32} :
  xrun k_X5_sayingOf 1 C Q [21, 69, 74, 79, 85, 95, 100, 105] K 1 95 [some (.ref 56), some (.int a1)] [.int s0] (xS I L z) b =
  Q (some (.int s0)) (xS I L z) := rfl
set_option maxRecDepth 100000 in
theorem b_X5_sayingOf_100 {C : xC} {Q : xQ} {K : xK} {I : xI} {L : xL} {z : Bool × Bool × Nat} {b : Nat × Nat} {a1 : Int32} {s0 : Int32} :
  xrun k_X5_sayingOf 1 C Q [21, 69, 74, 79, 85, 95, 100, 105] K 1 100 [some (.ref 56), some (.int a1)] [.int s0] (xS I L z) b =
  Q (some (.int s0)) (xS I L z) := rfl
set_option maxRecDepth 100000 in
theorem b_X5_sayingOf_105 {C : xC} {Q : xQ} {K : xK} {I : xI} {L : xL} {z : Bool × Bool × Nat} {b : Nat × Nat} {a1 : Int32} {s0 : Int32} :
  xrun k_X5_sayingOf 1 C Q [21, 69, 74, 79, 85, 95, 100, 105] K 1 105 [some (.ref 56), some (.int a1)] [.int s0] (xS I L z) b =
  Q (some (.int s0)) (xS I L z) := rfl
set_option maxRecDepth 100000 in
theorem b_X5_sayingOf_74 {C : xC} {Q : xQ} {K : xK} {I : xI} {L : xL} {z : Bool × Bool × Nat} {b : Nat × Nat} {a1 : Int32} {s0 : Int32} :
  xrun k_X5_sayingOf 1 C Q [21, 69, 74, 79, 85, 95, 100, 105] K 1 74 [some (.ref 56), some (.int a1)] [.int s0] (xS I L z) b =
  Q (some (.int s0)) (xS I L z) := rfl
set_option maxRecDepth 100000 in
theorem b_X5_firstUnknown_0 {C : xC} {Q : xQ} {K : xK} {I : xI} {L : xL} {z : Bool × Bool × Nat} {b : Nat × Nat} {a1 : Int32} :
  xrun k_X5_firstUnknown 1 C Q [2, 21] K 2 0 [some (.ref 56), some (.int a1), none] [] (xS I L z) b =
  K 2 [some (.ref 56), some (.int a1), some (.int 0)] [] (xS I L z) b := rfl
set_option maxRecDepth 100000 in
theorem b_X5_firstUnknown_2 {C : xC} {Q : xQ} {K : xK} {I : xI} {L : xL} {z : Bool × Bool × Nat} {b : Nat × Nat} {a1 : Int32} {a2 : Int32} :
  xrun k_X5_firstUnknown 1 C Q [2, 21] K 9 2 [some (.ref 56), some (.int a1), some (.int a2)] [] (xS I L z) b =
  (if a2 < (I 10 0) then C 129 [.ref 37, .int a2] (xS I L z) (fun r τ => K 21 [some (.ref 56), some (.int a1), some (.int a2)] (r.toList ++ []) τ b) else Q (some (.int (-1 : Int32))) (xS I L z)) := rfl
set_option maxRecDepth 100000 in
theorem b_X5_firstUnknown_21 {C : xC} {Q : xQ} {K : xK} {I : xI} {L : xL} {z : Bool × Bool × Nat} {b : Nat × Nat} {a1 : Int32} {a2 : Int32} {s0 : Int32} :
  xrun k_X5_firstUnknown 1 C Q [2, 21] K 7 21 [some (.ref 56), some (.int a1), some (.int a2)] [.int s0] (xS I L z) b =
  (if s0 = 0 then Q (some (.int ((10 * a2) + a1))) (xS I L z) else K 2 [some (.ref 56), some (.int a1), some (.int (a2 + 1))] [] (xS I L z) b) := rfl
set_option maxRecDepth 100000 in
theorem b_X5_mostShades_0 {C : xC} {Q : xQ} {K : xK} {I : xI} {L : xL} {z : Bool × Bool × Nat} {b : Nat × Nat}  :
  xrun k_X5_mostShades 1 C Q [6, 26] K 6 0 [some (.ref 56), none, none, none, none] [] (xS I L z) b =
  K 6 [some (.ref 56), some (.int (-1 : Int32)), some (.int 1), some (.int 0), none] [] (xS I L z) b := rfl
set_option maxRecDepth 100000 in
theorem b_X5_mostShades_6 {C : xC} {Q : xQ} {K : xK} {I : xI} {L : xL} {z : Bool × Bool × Nat} {b : Nat × Nat} {a1 : Int32} {a2 : Int32} {a3 : Int32} :
  xrun k_X5_mostShades 1 C Q [6, 26] K 10 6 [some (.ref 56), some (.int a1), some (.int a2), some (.int a3), none] [] (xS I L z) b =
  (if a3 < (I 10 0) then C 18 [.ref 43, .int a3, .int 0] (xS I L z) (fun r τ => K 26 [some (.ref 56), some (.int a1), some (.int a2), some (.int a3), none] (r.toList ++ []) τ b) else Q (some (.int a1)) (xS I L z)) := rfl
set_option maxRecDepth 100000 in
theorem b_X5_mostShades_26 {C : xC} {Q : xQ} {K : xK} {I : xI} {L : xL} {z : Bool × Bool × Nat} {b : Nat × Nat} {a1 : Int32} {a2 : Int32} {a3 : Int32} {s0 : Int32} :
  xrun k_X5_mostShades 1 C Q [6, 26] K 14 26 [some (.ref 56), some (.int a1), some (.int a2), some (.int a3), none] [.int s0] (xS I L z) b =
  (if a2 < s0 then K 6 [some (.ref 56), some (.int ((10 * a3) + 0)), some (.int s0), some (.int (a3 + 1)), some (.int s0)] [] (xS I L z) b else K 6 [some (.ref 56), some (.int a1), some (.int a2), some (.int (a3 + 1)), some (.int s0)] [] (xS I L z) b) := rfl
set_option maxRecDepth 100000 in
theorem b_X5_lookOrSip_0 {C : xC} {Q : xQ} {K : xK} {I : xI} {L : xL} {z : Bool × Bool × Nat} {b : Nat × Nat}  :
  xrun k_X5_lookOrSip 1 C Q [9, 25, 46] K 4 0 [some (.ref 56), none] [] (xS I L z) b =
  C 20 [.ref 43, .int 7] (xS I L z) (fun r τ => K 9 [some (.ref 56), none] (r.toList ++ []) τ b) := rfl
set_option maxRecDepth 100000 in
theorem b_X5_lookOrSip_9 {C : xC} {Q : xQ} {K : xK} {I : xI} {L : xL} {z : Bool × Bool × Nat} {b : Nat × Nat} {s0 : Int32} :
  xrun k_X5_lookOrSip 1 C Q [9, 25, 46] K 10 9 [some (.ref 56), none] [.int s0] (xS I L z) b =
  C 19 [.ref 43, .int (s0 / 10), .int (s0 - s0 / 10 * 10)] (xS I L z) (fun r τ => K 25 [some (.ref 56), some (.int s0)] (r.toList ++ []) τ b) := rfl
set_option maxRecDepth 100000 in
theorem b_X5_lookOrSip_25 {C : xC} {Q : xQ} {K : xK} {I : xI} {L : xL} {z : Bool × Bool × Nat} {b : Nat × Nat} {a1 : Int32} {s0 : Int32} :
  xrun k_X5_lookOrSip 1 C Q [9, 25, 46] K 8 25 [some (.ref 56), some (.int a1)] [.int s0] (xS I L z) b =
  (if s0 < (I 37 1) then Q (some (.int a1)) (xS I L z) else C 20 [.ref 43, .int 8] (xS I L z) (fun r τ => K 46 [some (.ref 56), some (.int a1)] (r.toList ++ []) τ b)) := rfl
set_option maxRecDepth 100000 in
theorem b_X5_lookOrSip_46 {C : xC} {Q : xQ} {K : xK} {I : xI} {L : xL} {z : Bool × Bool × Nat} {b : Nat × Nat} {a1 : Int32} {s0 : Int32} :
  xrun k_X5_lookOrSip 1 C Q [9, 25, 46] K 1 46 [some (.ref 56), some (.int a1)] [.int s0] (xS I L z) b =
  Q (some (.int s0)) (xS I L z) := rfl
set_option maxRecDepth 100000 in
theorem b_X5_sipOfWhoMindsMost_0 {C : xC} {Q : xQ} {K : xK} {I : xI} {L : xL} {z : Bool × Bool × Nat} {b : Nat × Nat}  :
  xrun k_X5_sipOfWhoMindsMost 1 C Q [7, 18, 21, 30, 38] K 3 0 [some (.ref 56), none] [] (xS I L z) b =
  C 10 [.ref 50] (xS I L z) (fun r τ => K 7 [some (.ref 56), none] (r.toList ++ []) τ b) := rfl
set_option maxRecDepth 100000 in
theorem b_X5_sipOfWhoMindsMost_7 {C : xC} {Q : xQ} {K : xK} {I : xI} {L : xL} {z : Bool × Bool × Nat} {b : Nat × Nat}  :
  xrun k_X5_sipOfWhoMindsMost 1 C Q [7, 18, 21, 30, 38] K 5 7 [some (.ref 56), none] [] (xS I L z) b =
  C 16 [.ref 50] (xS I L z) (fun r τ => K 18 [some (.ref 56), none] (r.toList ++ [.ref 50]) τ b) := rfl
set_option maxRecDepth 100000 in
theorem b_X5_sipOfWhoMindsMost_18 {C : xC} {Q : xQ} {K : xK} {I : xI} {L : xL} {z : Bool × Bool × Nat} {b : Nat × Nat} {s0 : Int32} :
  xrun k_X5_sipOfWhoMindsMost 1 C Q [7, 18, 21, 30, 38] K 1 18 [some (.ref 56), none] [.int s0, .ref 50] (xS I L z) b =
  C 15 [.ref 50, .int s0] (xS I L z) (fun r τ => K 21 [some (.ref 56), none] (r.toList ++ []) τ b) := rfl
set_option maxRecDepth 100000 in
theorem b_X5_sipOfWhoMindsMost_21 {C : xC} {Q : xQ} {K : xK} {I : xI} {L : xL} {z : Bool × Bool × Nat} {b : Nat × Nat} {s0 : Int32} :
  xrun k_X5_sipOfWhoMindsMost 1 C Q [7, 18, 21, 30, 38] K 5 21 [some (.ref 56), none] [.int s0] (xS I L z) b =
  C 129 [.ref 37, .int s0] (xS I L z) (fun r τ => K 30 [some (.ref 56), some (.int s0)] (r.toList ++ []) τ b) := rfl
set_option maxRecDepth 100000 in
theorem b_X5_sipOfWhoMindsMost_30 {C : xC} {Q : xQ} {K : xK} {I : xI} {L : xL} {z : Bool × Bool × Nat} {b : Nat × Nat} {a1 : Int32} {s0 : Int32} :
  xrun k_X5_sipOfWhoMindsMost 1 C Q [7, 18, 21, 30, 38] K 7 30 [some (.ref 56), some (.int a1)] [.int s0] (xS I L z) b =
  (if s0 = 0 then Q (some (.int ((10 * a1) + 3))) (xS I L z) else C 76 [.ref 56, .int 3] (xS I L z) (fun r τ => K 38 [some (.ref 56), some (.int a1)] (r.toList ++ []) τ b)) := rfl
set_option maxRecDepth 100000 in
theorem b_X5_sipOfWhoMindsMost_38 {C : xC} {Q : xQ} {K : xK} {I : xI} {L : xL} {z : Bool × Bool × Nat} {b : Nat × Nat} {a1 : Int32} {s0 : Int32} :
  xrun k_X5_sipOfWhoMindsMost 1 C Q [7, 18, 21, 30, 38] K 2 38 [some (.ref 56), some (.int a1)] [.int s0] (xS I L z) b =
  Q (some (.int s0)) (xS I L z) := rfl
set_option maxRecDepth 100000 in
theorem b_X6_layCups_0 {C : xC} {Q : xQ} {K : xK} {I : xI} {L : xL} {z : Bool × Bool × Nat} {b : Nat × Nat} {a1 : Int32} :
  xrun k_X6_layCups 0 C Q [13, 21, 30] K 7 0 [some (.ref 10), some (.int a1)] [] (xS I L z) b =
  C 302 [.ref 11, .int 0] (xS (xw I 10 0 a1) L z) (fun r τ => K 13 [some (.ref 10), some (.int a1)] (r.toList ++ []) τ b) := rfl
set_option maxRecDepth 100000 in
theorem b_X6_layCups_13 {C : xC} {Q : xQ} {K : xK} {I : xI} {L : xL} {z : Bool × Bool × Nat} {b : Nat × Nat} {a1 : Int32} :
  xrun k_X6_layCups 0 C Q [13, 21, 30] K 4 13 [some (.ref 10), some (.int a1)] [] (xS I L z) b =
  C 302 [.ref 12, .int 0] (xS I L z) (fun r τ => K 21 [some (.ref 10), some (.int a1)] (r.toList ++ []) τ b) := rfl
set_option maxRecDepth 100000 in
theorem b_X6_layCups_21 {C : xC} {Q : xQ} {K : xK} {I : xI} {L : xL} {z : Bool × Bool × Nat} {b : Nat × Nat} {a1 : Int32} :
  xrun k_X6_layCups 0 C Q [13, 21, 30] K 5 21 [some (.ref 10), some (.int a1)] [] (xS I L z) b =
  C 101 [.ref 10] (xS (xw I 10 5 1) L z) (fun r τ => K 30 [some (.ref 10), some (.int a1)] (r.toList ++ []) τ b) := rfl
set_option maxRecDepth 100000 in
theorem b_X6_layCups_30 {C : xC} {Q : xQ} {K : xK} {I : xI} {L : xL} {z : Bool × Bool × Nat} {b : Nat × Nat} {a1 : Int32} :
  xrun k_X6_layCups 0 C Q [13, 21, 30] K 1 30 [some (.ref 10), some (.int a1)] [] (xS I L z) b =
  Q none (xS I L z) := rfl
set_option maxRecDepth 100000 in
theorem b_X6_pourRow_0 {C : xC} {Q : xQ} {K : xK} {I : xI} {L : xL} {z : Bool × Bool × Nat} {b : Nat × Nat} {a1 : Nat} :
  xrun k_X6_pourRow 0 C Q [2, 19, 59] K 2 0 [some (.ref 10), some (.ref a1), none, none] [] (xS I L z) b =
  K 2 [some (.ref 10), some (.ref a1), some (.int 0), none] [] (xS I L z) b := rfl
set_option maxRecDepth 100000 in
theorem b_X6_pourRow_2 {C : xC} {Q : xQ} {K : xK} {I : xI} {L : xL} {z : Bool × Bool × Nat} {b : Nat × Nat} {a1 : Nat} {a2 : Int32} :
  xrun k_X6_pourRow 0 C Q [2, 19, 59] K 12 2 [some (.ref 10), some (.ref a1), some (.int a2), none] [] (xS I L z) b =
  (if a2 < 6 then (bif xalive (112, bif z.1 then 158 else 112, bif z.2.1 then 204 else 158) a1 && Nat.ble 20 (xkind a1) && !(Nat.beq (xkind a1) 24) then (if a2 < (Int32.ofNat (xlen z.2.2 (a1))) then C 82 [.ref 10, .int a2] (xS I L z) (fun r τ => K 19 [some (.ref 10), some (.ref a1), some (.int a2), none] (r.toList ++ []) τ b) else C 101 [.ref 10] (xS (xw I 10 5 1) L z) (fun r τ => K 59 [some (.ref 10), some (.ref a1), some (.int a2), none] (r.toList ++ []) τ b)) else False) else C 101 [.ref 10] (xS (xw I 10 5 1) L z) (fun r τ => K 59 [some (.ref 10), some (.ref a1), some (.int a2), none] (r.toList ++ []) τ b)) := rfl
set_option maxRecDepth 100000 in
theorem b_X6_pourRow_19 {C : xC} {Q : xQ} {K : xK} {I : xI} {L : xL} {z : Bool × Bool × Nat} {b : Nat × Nat} {a1 : Nat} {a2 : Int32} {s0 : Int32} :
  xrun k_X6_pourRow 0 C Q [2, 19, 59] K 18 19 [some (.ref 10), some (.ref a1), some (.int a2), none] [.int s0] (xS I L z) b =
  (if s0 = 0 then (if xin a2 (6) then (if xin a2 (6) then K 2 [some (.ref 10), some (.ref a1), some (.int (a2 + 1)), some (.int 0)] [] (xS (xw (xw I 11 (Int32.toNatClampNeg a2) 0) 12 (Int32.toNatClampNeg a2) 0) L z) b else False) else False) else (bif xisi (xS I L z) a1 then (if xin a2 (xlen z.2.2 (a1)) then (if xin a2 (6) then (if xin a2 (6) then K 2 [some (.ref 10), some (.ref a1), some (.int (a2 + 1)), some (.int (I a1 (Int32.toNatClampNeg a2)))] [] (xS (xw (xw I 11 (Int32.toNatClampNeg a2) (I a1 (Int32.toNatClampNeg a2))) 12 (Int32.toNatClampNeg a2) (I a1 (Int32.toNatClampNeg a2))) L z) b else False) else False) else False) else False)) := rfl
set_option maxRecDepth 100000 in
theorem b_X6_pourRow_59 {C : xC} {Q : xQ} {K : xK} {I : xI} {L : xL} {z : Bool × Bool × Nat} {b : Nat × Nat} {a1 : Nat} {a2 : Int32} :
  xrun k_X6_pourRow 0 C Q [2, 19, 59] K 1 59 [some (.ref 10), some (.ref a1), some (.int a2), none] [] (xS I L z) b =
  Q none (xS I L z) := rfl
set_option maxRecDepth 100000 in
theorem b_X6_setTruth_0 {C : xC} {Q : xQ} {K : xK} {I : xI} {L : xL} {z : Bool × Bool × Nat} {b : Nat × Nat} {a1 : Int32} :
  xrun k_X6_setTruth 0 C Q [2, 18, 29] K 2 0 [some (.ref 10), some (.int a1), none] [] (xS I L z) b =
  K 2 [some (.ref 10), some (.int a1), some (.int 0)] [] (xS I L z) b := rfl
set_option maxRecDepth 100000 in
theorem b_X6_setTruth_2 {C : xC} {Q : xQ} {K : xK} {I : xI} {L : xL} {z : Bool × Bool × Nat} {b : Nat × Nat} {a1 : Int32} {a2 : Int32} :
  xrun k_X6_setTruth 0 C Q [2, 18, 29] K 9 2 [some (.ref 10), some (.int a1), some (.int a2)] [] (xS I L z) b =
  (if a2 < 6 then C 111 [.int a1, .int a2] (xS I L z) (fun r τ => K 18 [some (.ref 10), some (.int a1), some (.int a2)] (r.toList ++ [.int a2, .ref 12]) τ b) else C 101 [.ref 10] (xS I L z) (fun r τ => K 29 [some (.ref 10), some (.int a1), some (.int a2)] (r.toList ++ []) τ b)) := rfl
set_option maxRecDepth 100000 in
theorem b_X6_setTruth_18 {C : xC} {Q : xQ} {K : xK} {I : xI} {L : xL} {z : Bool × Bool × Nat} {b : Nat × Nat} {a1 : Int32} {a2 : Int32} {s1 : Int32} {s0 : Int32} :
  xrun k_X6_setTruth 0 C Q [2, 18, 29] K 3 18 [some (.ref 10), some (.int a1), some (.int a2)] [.int s0, .int s1, .ref 12] (xS I L z) b =
  (if xin s1 (6) then K 2 [some (.ref 10), some (.int a1), some (.int (a2 + 1))] [] (xS (xw I 12 (Int32.toNatClampNeg s1) s0) L z) b else False) := rfl
set_option maxRecDepth 100000 in
theorem b_X6_setTruth_29 {C : xC} {Q : xQ} {K : xK} {I : xI} {L : xL} {z : Bool × Bool × Nat} {b : Nat × Nat} {a1 : Int32} {a2 : Int32} :
  xrun k_X6_setTruth 0 C Q [2, 18, 29] K 1 29 [some (.ref 10), some (.int a1), some (.int a2)] [] (xS I L z) b =
  Q none (xS I L z) := rfl
set_option maxRecDepth 100000 in
theorem b_X6_knows_0 {C : xC} {Q : xQ} {K : xK} {I : xI} {L : xL} {z : Bool × Bool × Nat} {b : Nat × Nat} {a1 : Int32} {a2 : Int32} :
  xrun k_X6_knows 2 C Q [2] K 2 0 [some (.ref 10), some (.int a1), some (.int a2), none] [] (xS I L z) b =
  K 2 [some (.ref 10), some (.int a1), some (.int a2), some (.int 0)] [] (xS I L z) b := rfl
set_option maxRecDepth 100000 in
theorem b_X6_knows_2 {C : xC} {Q : xQ} {K : xK} {I : xI} {L : xL} {z : Bool × Bool × Nat} {b : Nat × Nat} {a1 : Int32} {a2 : Int32} {a3 : Int32} :
  xrun k_X6_knows 2 C Q [2] K 23 2 [some (.ref 10), some (.int a1), some (.int a2), some (.int a3)] [] (xS I L z) b =
  (if a3 < (I 10 3) then (if a3 < 24 then (if xin a3 (24) then (if ((I 16 (Int32.toNatClampNeg a3)) / 10) = ((a1 * 4) + a2) then Q (some (.int 1)) (xS I L z) else K 2 [some (.ref 10), some (.int a1), some (.int a2), some (.int (a3 + 1))] [] (xS I L z) b) else False) else Q (some (.int 0)) (xS I L z)) else Q (some (.int 0)) (xS I L z)) := rfl
set_option maxRecDepth 100000 in
theorem b_X6_learn_0 {C : xC} {Q : xQ} {K : xK} {I : xI} {L : xL} {z : Bool × Bool × Nat} {b : Nat × Nat} {a1 : Int32} {a2 : Int32} {a3 : Int32} :
  xrun k_X6_learn 2 C Q [6, 46] K 4 0 [some (.ref 10), some (.int a1), some (.int a2), some (.int a3)] [] (xS I L z) b =
  C 99 [.ref 10, .int a1, .int a2] (xS I L z) (fun r τ => K 6 [some (.ref 10), some (.int a1), some (.int a2), some (.int a3)] (r.toList ++ []) τ b) := rfl
set_option maxRecDepth 100000 in
theorem b_X6_learn_6 {C : xC} {Q : xQ} {K : xK} {I : xI} {L : xL} {z : Bool × Bool × Nat} {b : Nat × Nat} {a1 : Int32} {a2 : Int32} {a3 : Int32} {s0 : Int32} :
  xrun k_X6_learn 2 C Q [6, 46] K 18 6 [some (.ref 10), some (.int a1), some (.int a2), some (.int a3)] [.int s0] (xS I L z) b =
  (if s0 = 0 then (if (I 10 3) < 0 then Q (some (.int 0)) (xS I L z) else (if (I 10 3) < 24 then C 109 [.int a1, .int a2, .int a3] (xS I L z) (fun r τ => K 46 [some (.ref 10), some (.int a1), some (.int a2), some (.int a3)] (r.toList ++ [.int (I 10 3), .ref 16]) τ b) else Q (some (.int 0)) (xS I L z))) else Q (some (.int 1)) (xS I L z)) := rfl
set_option maxRecDepth 100000 in
theorem b_X6_learn_46 {C : xC} {Q : xQ} {K : xK} {I : xI} {L : xL} {z : Bool × Bool × Nat} {b : Nat × Nat} {a1 : Int32} {a2 : Int32} {a3 : Int32} {s1 : Int32} {s0 : Int32} :
  xrun k_X6_learn 2 C Q [6, 46] K 12 46 [some (.ref 10), some (.int a1), some (.int a2), some (.int a3)] [.int s0, .int s1, .ref 16] (xS I L z) b =
  (if xin s1 (24) then Q (some (.int 1)) (xS (xw (xw (xw I 16 (Int32.toNatClampNeg s1) s0) 10 3 (((xw I 16 (Int32.toNatClampNeg s1) s0) 10 3) + 1)) 10 6 1) L z) else False) := rfl
set_option maxRecDepth 100000 in
theorem b_X6_sortsWithSign_0 {C : xC} {Q : xQ} {K : xK} {I : xI} {L : xL} {z : Bool × Bool × Nat} {b : Nat × Nat} {a1 : Int32} :
  xrun k_X6_sortsWithSign 1 C Q [23, 53] K 12 0 [some (.ref 10), some (.int a1), none, none, none, none, none] [] (xS I L z) b =
  (if a1 < 0 then K 23 [some (.ref 10), some (.int a1), none, none, none, none, none] [.int 0] (xS I L z) b else (if a1 < 24 then (if xin a1 (24) then K 23 [some (.ref 10), some (.int a1), none, none, none, none, none] [.int (I 16 (Int32.toNatClampNeg a1))] (xS I L z) b else False) else K 23 [some (.ref 10), some (.int a1), none, none, none, none, none] [.int 0] (xS I L z) b)) := rfl
set_option maxRecDepth 100000 in
theorem b_X6_sortsWithSign_23 {C : xC} {Q : xQ} {K : xK} {I : xI} {L : xL} {z : Bool × Bool × Nat} {b : Nat × Nat} {a1 : Int32} {s0 : Int32} :
  xrun k_X6_sortsWithSign 1 C Q [23, 53] K 18 23 [some (.ref 10), some (.int a1), none, none, none, none, none] [.int s0] (xS I L z) b =
  (if ((s0 / 10) - (s0 / 10) / 4 * 4) = 3 then Q (some (.int (1 <<< ((s0 - s0 / 10 * 10) &&& 31)))) (xS I L z) else K 53 [some (.ref 10), some (.int a1), some (.int s0), some (.int ((s0 / 10) - (s0 / 10) / 4 * 4)), some (.int (s0 - s0 / 10 * 10)), some (.int 0), some (.int ((s0 / 10) - (s0 / 10) / 4 * 4))] [] (xS I L z) b) := rfl
set_option maxRecDepth 100000 in
theorem b_X6_sortsWithSign_53 {C : xC} {Q : xQ} {K : xK} {I : xI} {L : xL} {z : Bool × Bool × Nat} {b : Nat × Nat} {a1 : Int32} {a2 : Int32} {a3 : Int32} {a4 : Int32} {a5 : Int32} {a6 : Int32} :
  xrun k_X6_sortsWithSign 1 C Q [23, 53] K 21 53 [some (.ref 10), some (.int a1), some (.int a2), some (.int a3), some (.int a4), some (.int a5), some (.int a6)] [] (xS I L z) b =
  (if a6 < 18 then (if xin a6 (18) then (if (I 13 (Int32.toNatClampNeg a6)) = a4 then K 53 [some (.ref 10), some (.int a1), some (.int a2), some (.int a3), some (.int a4), some (.int (a5 ||| (1 <<< ((a6 / 3) &&& 31)))), some (.int (a6 + 3))] [] (xS I L z) b else K 53 [some (.ref 10), some (.int a1), some (.int a2), some (.int a3), some (.int a4), some (.int a5), some (.int (a6 + 3))] [] (xS I L z) b) else False) else Q (some (.int a5)) (xS I L z)) := rfl
set_option maxRecDepth 100000 in
theorem b_X6_unlikePoured_0 {C : xC} {Q : xQ} {K : xK} {I : xI} {L : xL} {z : Bool × Bool × Nat} {b : Nat × Nat}  :
  xrun k_X6_unlikePoured 1 C Q [4, 42] K 4 0 [some (.ref 10), none, none] [] (xS I L z) b =
  K 4 [some (.ref 10), some (.int 0), some (.int 0)] [] (xS I L z) b := rfl
set_option maxRecDepth 100000 in
theorem b_X6_unlikePoured_4 {C : xC} {Q : xQ} {K : xK} {I : xI} {L : xL} {z : Bool × Bool × Nat} {b : Nat × Nat} {a1 : Int32} {a2 : Int32} :
  xrun k_X6_unlikePoured 1 C Q [4, 42] K 20 4 [some (.ref 10), some (.int a1), some (.int a2)] [] (xS I L z) b =
  (if a2 < (I 10 0) then (if a2 < 6 then (if xin a2 (6) then K 4 [some (.ref 10), some (.int (a1 ||| (1 <<< ((I 11 (Int32.toNatClampNeg a2)) &&& 31)))), some (.int (a2 + 1))] [] (xS I L z) b else False) else C 299 [.int a1] (xS I L z) (fun r τ => K 42 [some (.ref 10), some (.int a1), some (.int a2)] (r.toList ++ []) τ b)) else C 299 [.int a1] (xS I L z) (fun r τ => K 42 [some (.ref 10), some (.int a1), some (.int a2)] (r.toList ++ []) τ b)) := rfl
set_option maxRecDepth 100000 in
theorem b_X6_unlikePoured_42 {C : xC} {Q : xQ} {K : xK} {I : xI} {L : xL} {z : Bool × Bool × Nat} {b : Nat × Nat} {a1 : Int32} {a2 : Int32} {s0 : Int32} :
  xrun k_X6_unlikePoured 1 C Q [4, 42] K 1 42 [some (.ref 10), some (.int a1), some (.int a2)] [.int s0] (xS I L z) b =
  Q (some (.int s0)) (xS I L z) := rfl
set_option maxRecDepth 100000 in
theorem b_X6_howManyPoured_0 {C : xC} {Q : xQ} {K : xK} {I : xI} {L : xL} {z : Bool × Bool × Nat} {b : Nat × Nat} {a1 : Int32} :
  xrun k_X6_howManyPoured 1 C Q [4] K 4 0 [some (.ref 10), some (.int a1), none, none] [] (xS I L z) b =
  K 4 [some (.ref 10), some (.int a1), some (.int 0), some (.int 0)] [] (xS I L z) b := rfl
set_option maxRecDepth 100000 in
theorem b_X6_howManyPoured_4 {C : xC} {Q : xQ} {K : xK} {I : xI} {L : xL} {z : Bool × Bool × Nat} {b : Nat × Nat} {a1 : Int32} {a2 : Int32} {a3 : Int32} :
  xrun k_X6_howManyPoured 1 C Q [4] K 18 4 [some (.ref 10), some (.int a1), some (.int a2), some (.int a3)] [] (xS I L z) b =
  (if a3 < (I 10 0) then (if a3 < 6 then (if xin a3 (6) then (if (I 11 (Int32.toNatClampNeg a3)) = a1 then K 4 [some (.ref 10), some (.int a1), some (.int (a2 + 1)), some (.int (a3 + 1))] [] (xS I L z) b else K 4 [some (.ref 10), some (.int a1), some (.int a2), some (.int (a3 + 1))] [] (xS I L z) b) else False) else Q (some (.int a2)) (xS I L z)) else Q (some (.int a2)) (xS I L z)) := rfl
set_option maxRecDepth 100000 in
theorem b_X6_turnsToTruth_0 {C : xC} {Q : xQ} {K : xK} {I : xI} {L : xL} {z : Bool × Bool × Nat} {b : Nat × Nat}  :
  xrun k_X6_turnsToTruth 1 C Q [2, 15] K 2 0 [some (.ref 10), none] [] (xS I L z) b =
  K 2 [some (.ref 10), some (.int 0)] [] (xS I L z) b := rfl
set_option maxRecDepth 100000 in
theorem b_X6_turnsToTruth_2 {C : xC} {Q : xQ} {K : xK} {I : xI} {L : xL} {z : Bool × Bool × Nat} {b : Nat × Nat} {a1 : Int32} :
  xrun k_X6_turnsToTruth 1 C Q [2, 15] K 7 2 [some (.ref 10), some (.int a1)] [] (xS I L z) b =
  (if a1 < (I 10 0) then C 107 [.ref 10, .int a1] (xS I L z) (fun r τ => K 15 [some (.ref 10), some (.int a1)] (r.toList ++ []) τ b) else Q (some (.int (-1 : Int32))) (xS I L z)) := rfl
set_option maxRecDepth 100000 in
theorem b_X6_turnsToTruth_15 {C : xC} {Q : xQ} {K : xK} {I : xI} {L : xL} {z : Bool × Bool × Nat} {b : Nat × Nat} {a1 : Int32} {s0 : Int32} :
  xrun k_X6_turnsToTruth 1 C Q [2, 15] K 3 15 [some (.ref 10), some (.int a1)] [.int s0] (xS I L z) b =
  (if s0 = 0 then K 2 [some (.ref 10), some (.int (a1 + 1))] [] (xS I L z) b else Q (some (.int a1)) (xS I L z)) := rfl
set_option maxRecDepth 100000 in
theorem b_X6_isTurnedSo_0 {C : xC} {Q : xQ} {K : xK} {I : xI} {L : xL} {z : Bool × Bool × Nat} {b : Nat × Nat} {a1 : Int32} :
  xrun k_X6_isTurnedSo 2 C Q [2, 16, 21] K 2 0 [some (.ref 10), some (.int a1), none] [] (xS I L z) b =
  K 2 [some (.ref 10), some (.int a1), some (.int 0)] [] (xS I L z) b := rfl
set_option maxRecDepth 100000 in
theorem b_X6_isTurnedSo_2 {C : xC} {Q : xQ} {K : xK} {I : xI} {L : xL} {z : Bool × Bool × Nat} {b : Nat × Nat} {a1 : Int32} {a2 : Int32} :
  xrun k_X6_isTurnedSo 2 C Q [2, 16, 21] K 8 2 [some (.ref 10), some (.int a1), some (.int a2)] [] (xS I L z) b =
  (if a2 < (I 10 0) then C 105 [.ref 10, .int a2, .int a1] (xS I L z) (fun r τ => K 16 [some (.ref 10), some (.int a1), some (.int a2)] (r.toList ++ []) τ b) else Q (some (.int 1)) (xS I L z)) := rfl
set_option maxRecDepth 100000 in
theorem b_X6_isTurnedSo_16 {C : xC} {Q : xQ} {K : xK} {I : xI} {L : xL} {z : Bool × Bool × Nat} {b : Nat × Nat} {a1 : Int32} {a2 : Int32} {s0 : Int32} :
  xrun k_X6_isTurnedSo 2 C Q [2, 16, 21] K 3 16 [some (.ref 10), some (.int a1), some (.int a2)] [.int s0] (xS I L z) b =
  C 95 [.ref 10, .int a2] (xS I L z) (fun r τ => K 21 [some (.ref 10), some (.int a1), some (.int a2)] (r.toList ++ [.int s0]) τ b) := rfl
set_option maxRecDepth 100000 in
theorem b_X6_isTurnedSo_21 {C : xC} {Q : xQ} {K : xK} {I : xI} {L : xL} {z : Bool × Bool × Nat} {b : Nat × Nat} {a1 : Int32} {a2 : Int32} {s1 : Int32} {s0 : Int32} :
  xrun k_X6_isTurnedSo 2 C Q [2, 16, 21] K 3 21 [some (.ref 10), some (.int a1), some (.int a2)] [.int s0, .int s1] (xS I L z) b =
  (if s1 = s0 then K 2 [some (.ref 10), some (.int a1), some (.int (a2 + 1))] [] (xS I L z) b else Q (some (.int 0)) (xS I L z)) := rfl
set_option maxRecDepth 100000 in
theorem b_X7_worldIn_0 {C : xC} {Q : xQ} {K : xK} {I : xI} {L : xL} {z : Bool × Bool × Nat} {b : Nat × Nat} {a0 : Nat} {a1 : Int32} :
  xrun k_X7_worldIn 1 C Q [4] K 4 0 [some (.ref a0), some (.int a1), none, none] [] (xS I L z) b =
  K 4 [some (.ref a0), some (.int a1), some (.int 0), some (.int 0)] [] (xS I L z) b := rfl
set_option maxRecDepth 100000 in
theorem b_X7_worldIn_4 {C : xC} {Q : xQ} {K : xK} {I : xI} {L : xL} {z : Bool × Bool × Nat} {b : Nat × Nat} {a0 : Nat} {a1 : Int32} {a2 : Int32} {a3 : Int32} :
  xrun k_X7_worldIn 1 C Q [4] K 25 4 [some (.ref a0), some (.int a1), some (.int a2), some (.int a3)] [] (xS I L z) b =
  (if a3 < a1 then (bif xalive (112, bif z.1 then 158 else 112, bif z.2.1 then 204 else 158) a0 && Nat.ble 20 (xkind a0) && !(Nat.beq (xkind a0) 24) then (if a3 < (Int32.ofNat (xlen z.2.2 (a0))) then (if a3 < 6 then (bif xisi (xS I L z) a0 then (if xin a3 (xlen z.2.2 (a0)) then (if xin a3 (6) then K 4 [some (.ref a0), some (.int a1), some (.int (a2 ||| (((I a0 (Int32.toNatClampNeg a3)) &&& 7) <<< ((I 2 (Int32.toNatClampNeg a3)) &&& 31)))), some (.int (a3 + 1))] [] (xS I L z) b else False) else False) else False) else Q (some (.int a2)) (xS I L z)) else Q (some (.int a2)) (xS I L z)) else False) else Q (some (.int a2)) (xS I L z)) := rfl
set_option maxRecDepth 100000 in
theorem b_X7_refresh_0 {C : xC} {Q : xQ} {K : xK} {I : xI} {L : xL} {z : Bool × Bool × Nat} {b : Nat × Nat}  :
  xrun k_X7_refresh 0 C Q [46, 74, 96] K 29 0 [some (.ref 37)] [] (xS I L z) b =
  (if (I 10 5) = 0 then K 74 [some (.ref 37)] [] (xS I L z) b else (if ((xw (xw (xw I 10 5 0) 10 6 1) 37 0 0) 10 1) = 2 then C 115 [.ref 37] (xS (xw (xw (xw I 10 5 0) 10 6 1) 37 0 0) L z) (fun r τ => K 46 [some (.ref 37)] (r.toList ++ []) τ b) else (if ((xw (xw (xw I 10 5 0) 10 6 1) 37 0 0) 10 1) = 0 then C 117 [.ref 37, .int 1] (xS (xw (xw (xw I 10 5 0) 10 6 1) 37 0 0) L z) (fun r τ => K 74 [some (.ref 37)] (r.toList ++ []) τ b) else C 117 [.ref 37, .int ((xw (xw (xw I 10 5 0) 10 6 1) 37 0 0) 10 0)] (xS (xw (xw (xw I 10 5 0) 10 6 1) 37 0 0) L z) (fun r τ => K 74 [some (.ref 37)] (r.toList ++ []) τ b)))) := rfl
set_option maxRecDepth 100000 in
theorem b_X7_refresh_46 {C : xC} {Q : xQ} {K : xK} {I : xI} {L : xL} {z : Bool × Bool × Nat} {b : Nat × Nat}  :
  xrun k_X7_refresh 0 C Q [46, 74, 96] K 1 46 [some (.ref 37)] [] (xS I L z) b =
  K 74 [some (.ref 37)] [] (xS I L z) b := rfl
set_option maxRecDepth 100000 in
theorem b_X7_refresh_74 {C : xC} {Q : xQ} {K : xK} {I : xI} {L : xL} {z : Bool × Bool × Nat} {b : Nat × Nat}  :
  xrun k_X7_refresh 0 C Q [46, 74, 96] K 10 74 [some (.ref 37)] [] (xS I L z) b =
  (if (I 10 6) = 0 then K 96 [some (.ref 37)] [] (xS I L z) b else C 119 [.ref 37] (xS (xw I 10 6 0) L z) (fun r τ => K 96 [some (.ref 37)] (r.toList ++ []) τ b)) := rfl
set_option maxRecDepth 100000 in
theorem b_X7_refresh_96 {C : xC} {Q : xQ} {K : xK} {I : xI} {L : xL} {z : Bool × Bool × Nat} {b : Nat × Nat}  :
  xrun k_X7_refresh 0 C Q [46, 74, 96] K 1 96 [some (.ref 37)] [] (xS I L z) b =
  Q none (xS I L z) := rfl
set_option maxRecDepth 100000 in
theorem b_X7_findMixed_0 {C : xC} {Q : xQ} {K : xK} {I : xI} {L : xL} {z : Bool × Bool × Nat} {b : Nat × Nat}  :
  xrun k_X7_findMixed 0 C Q [4, 18, 19, 58, 82, 95] K 4 0 [some (.ref 37), none, none, none] [] (xS I L z) b =
  K 4 [some (.ref 37), some (.int 0), some (.int 0), none] [] (xS I L z) b := rfl
set_option maxRecDepth 100000 in
theorem b_X7_findMixed_4 {C : xC} {Q : xQ} {K : xK} {I : xI} {L : xL} {z : Bool × Bool × Nat} {b : Nat × Nat} {a1 : Int32} {a2 : Int32} :
  xrun k_X7_findMixed 0 C Q [4, 18, 19, 58, 82, 95] K 7 4 [some (.ref 37), some (.int a1), some (.int a2), none] [] (xS I L z) b =
  (if a2 < 6 then C 104 [.ref 10, .int a2] (xS I L z) (fun r τ => K 18 [some (.ref 37), some (.int a1), some (.int a2), none] (r.toList ++ []) τ b) else K 58 [some (.ref 37), some (.int a1), some (.int 1), some (.int 0)] [] (xS I L z) b) := rfl
set_option maxRecDepth 100000 in
theorem b_X7_findMixed_18 {C : xC} {Q : xQ} {K : xK} {I : xI} {L : xL} {z : Bool × Bool × Nat} {b : Nat × Nat} {a1 : Int32} {a2 : Int32} {s0 : Int32} :
  xrun k_X7_findMixed 0 C Q [4, 18, 19, 58, 82, 95] K 1 18 [some (.ref 37), some (.int a1), some (.int a2), none] [.int s0] (xS I L z) b =
  K 19 [some (.ref 37), some (.int a1), some (.int a2), some (.int s0)] [] (xS I L z) b := rfl
set_option maxRecDepth 100000 in
theorem b_X7_findMixed_58 {C : xC} {Q : xQ} {K : xK} {I : xI} {L : xL} {z : Bool × Bool × Nat} {b : Nat × Nat} {a1 : Int32} {a2 : Int32} {a3 : Int32} :
  xrun k_X7_findMixed 0 C Q [4, 18, 19, 58, 82, 95] K 12 58 [some (.ref 37), some (.int a1), some (.int a2), some (.int a3)] [] (xS I L z) b =
  (if a3 < 720 then (if a2 = 0 then Q none (xS I L z) else C 113 [.ref 41, .int a1] (xS I L z) (fun r τ => K 82 [some (.ref 37), some (.int a1), some (.int a2), some (.int a3)] (r.toList ++ [.int a3, .ref 38]) τ b)) else Q none (xS I L z)) := rfl
set_option maxRecDepth 100000 in
theorem b_X7_findMixed_19 {C : xC} {Q : xQ} {K : xK} {I : xI} {L : xL} {z : Bool × Bool × Nat} {b : Nat × Nat} {a1 : Int32} {a2 : Int32} {a3 : Int32} :
  xrun k_X7_findMixed 0 C Q [4, 18, 19, 58, 82, 95] K 15 19 [some (.ref 37), some (.int a1), some (.int a2), some (.int a3)] [] (xS I L z) b =
  (if 0 < a3 then (if a1 < 6 then (if xin a1 (6) then K 19 [some (.ref 37), some (.int (a1 + 1)), some (.int a2), some (.int (a3 + (-1 : Int32)))] [] (xS (xw I 41 (Int32.toNatClampNeg a1) a2) L z) b else False) else K 4 [some (.ref 37), some (.int a1), some (.int (a2 + 1)), some (.int a3)] [] (xS I L z) b) else K 4 [some (.ref 37), some (.int a1), some (.int (a2 + 1)), some (.int a3)] [] (xS I L z) b) := rfl
set_option maxRecDepth 100000 in
theorem b_X7_findMixed_82 {C : xC} {Q : xQ} {K : xK} {I : xI} {L : xL} {z : Bool × Bool × Nat} {b : Nat × Nat} {a1 : Int32} {a2 : Int32} {a3 : Int32} {s1 : Int32} {s0 : Int32} :
  xrun k_X7_findMixed 0 C Q [4, 18, 19, 58, 82, 95] K 9 82 [some (.ref 37), some (.int a1), some (.int a2), some (.int a3)] [.int s0, .int s1, .ref 38] (xS I L z) b =
  (if xin s1 (720) then C 116 [.ref 37, .int a1] (xS (xw (xw I 38 (Int32.toNatClampNeg s1) s0) 37 0 (a3 + 1)) L z) (fun r τ => K 95 [some (.ref 37), some (.int a1), some (.int a2), some (.int a3)] (r.toList ++ []) τ b) else False) := rfl
set_option maxRecDepth 100000 in
theorem b_X7_findMixed_95 {C : xC} {Q : xQ} {K : xK} {I : xI} {L : xL} {z : Bool × Bool × Nat} {b : Nat × Nat} {a1 : Int32} {a2 : Int32} {a3 : Int32} {s0 : Int32} :
  xrun k_X7_findMixed 0 C Q [4, 18, 19, 58, 82, 95] K 3 95 [some (.ref 37), some (.int a1), some (.int a2), some (.int a3)] [.int s0] (xS I L z) b =
  K 58 [some (.ref 37), some (.int a1), some (.int s0), some (.int (a3 + 1))] [] (xS I L z) b := rfl
set_option maxRecDepth 100000 in
theorem b_X7_stepMixed_0 {C : xC} {Q : xQ} {K : xK} {I : xI} {L : xL} {z : Bool × Bool × Nat} {b : Nat × Nat} {a1 : Int32} :
  xrun k_X7_stepMixed 2 C Q [15, 52, 78, 116] K 9 0 [some (.ref 37), some (.int a1), none, none, none, none, none, none] [] (xS I L z) b =
  (if 6 < a1 then Q (some (.int 0)) (xS I L z) else K 15 [some (.ref 37), some (.int a1), some (.int (a1 - 2)), none, none, none, none, none] [] (xS I L z) b) := rfl
set_option maxRecDepth 100000 in
theorem b_X7_stepMixed_15 {C : xC} {Q : xQ} {K : xK} {I : xI} {L : xL} {z : Bool × Bool × Nat} {b : Nat × Nat} {a1 : Int32} {a2 : Int32} :
  xrun k_X7_stepMixed 2 C Q [15, 52, 78, 116] K 19 15 [some (.ref 37), some (.int a1), some (.int a2), none, none, none, none, none] [] (xS I L z) b =
  (if a2 < 0 then (if a2 < 0 then Q (some (.int 0)) (xS I L z) else K 52 [some (.ref 37), some (.int a1), some (.int a2), some (.int (a1 - 1)), none, none, none, none] [] (xS I L z) b) else (if xin a2 (6) then (if xin (a2 + 1) (6) then (if (I 41 (Int32.toNatClampNeg a2)) < (I 41 (Int32.toNatClampNeg (a2 + 1))) then (if a2 < 0 then Q (some (.int 0)) (xS I L z) else K 52 [some (.ref 37), some (.int a1), some (.int a2), some (.int (a1 - 1)), none, none, none, none] [] (xS I L z) b) else K 15 [some (.ref 37), some (.int a1), some (.int (a2 + (-1 : Int32))), none, none, none, none, none] [] (xS I L z) b) else False) else False)) := rfl
set_option maxRecDepth 100000 in
theorem b_X7_stepMixed_52 {C : xC} {Q : xQ} {K : xK} {I : xI} {L : xL} {z : Bool × Bool × Nat} {b : Nat × Nat} {a1 : Int32} {a2 : Int32} {a3 : Int32} :
  xrun k_X7_stepMixed 2 C Q [15, 52, 78, 116] K 14 52 [some (.ref 37), some (.int a1), some (.int a2), some (.int a3), none, none, none, none] [] (xS I L z) b =
  (if a2 < a3 then (if xin a3 (6) then (if xin a2 (6) then (if (I 41 (Int32.toNatClampNeg a2)) < (I 41 (Int32.toNatClampNeg a3)) then K 78 [some (.ref 37), some (.int a1), some (.int a2), some (.int a3), none, none, none, none] [] (xS I L z) b else K 52 [some (.ref 37), some (.int a1), some (.int a2), some (.int (a3 + (-1 : Int32))), none, none, none, none] [] (xS I L z) b) else False) else False) else K 78 [some (.ref 37), some (.int a1), some (.int a2), some (.int a3), none, none, none, none] [] (xS I L z) b) := rfl
set_option maxRecDepth 100000 in
theorem b_X7_stepMixed_78 {C : xC} {Q : xQ} {K : xK} {I : xI} {L : xL} {z : Bool × Bool × Nat} {b : Nat × Nat} {a1 : Int32} {a2 : Int32} {a3 : Int32} :
  xrun k_X7_stepMixed 2 C Q [15, 52, 78, 116] K 26 78 [some (.ref 37), some (.int a1), some (.int a2), some (.int a3), none, none, none, none] [] (xS I L z) b =
  (if xin a3 (6) then (if xin a2 (6) then (if xin a3 (6) then (if xin a2 (6) then K 116 [some (.ref 37), some (.int a1), some (.int a2), some (.int a3), some (.int (I 41 (Int32.toNatClampNeg a3))), some (.int (a1 - 1)), some (.int (a2 + 1)), none] [] (xS (xw (xw I 41 (Int32.toNatClampNeg a3) (I 41 (Int32.toNatClampNeg a2))) 41 (Int32.toNatClampNeg a2) (I 41 (Int32.toNatClampNeg a3))) L z) b else False) else False) else False) else False) := rfl
set_option maxRecDepth 100000 in
theorem b_X7_stepMixed_116 {C : xC} {Q : xQ} {K : xK} {I : xI} {L : xL} {z : Bool × Bool × Nat} {b : Nat × Nat} {a1 : Int32} {a2 : Int32} {a3 : Int32} {a4 : Int32} {a5 : Int32} {a6 : Int32} :
  xrun k_X7_stepMixed 2 C Q [15, 52, 78, 116] K 24 116 [some (.ref 37), some (.int a1), some (.int a2), some (.int a3), some (.int a4), some (.int a5), some (.int a6), none] [] (xS I L z) b =
  (if a6 < a5 then (if xin a6 (6) then (if xin a5 (6) then (if xin a6 (6) then (if xin a5 (6) then K 116 [some (.ref 37), some (.int a1), some (.int a2), some (.int a3), some (.int a4), some (.int (a5 + (-1 : Int32))), some (.int (a6 + 1)), some (.int (I 41 (Int32.toNatClampNeg a6)))] [] (xS (xw (xw I 41 (Int32.toNatClampNeg a6) (I 41 (Int32.toNatClampNeg a5))) 41 (Int32.toNatClampNeg a5) (I 41 (Int32.toNatClampNeg a6))) L z) b else False) else False) else False) else False) else Q (some (.int 1)) (xS I L z)) := rfl
set_option maxRecDepth 100000 in
theorem b_X7_findTurned_0 {C : xC} {Q : xQ} {K : xK} {I : xI} {L : xL} {z : Bool × Bool × Nat} {b : Nat × Nat} {a1 : Int32} :
  xrun k_X7_findTurned 0 C Q [2, 9, 43, 64, 70, 78] K 2 0 [some (.ref 37), some (.int a1), none, none] [] (xS I L z) b =
  K 2 [some (.ref 37), some (.int a1), some (.int 0), none] [] (xS I L z) b := rfl
set_option maxRecDepth 100000 in
theorem b_X7_findTurned_2 {C : xC} {Q : xQ} {K : xK} {I : xI} {L : xL} {z : Bool × Bool × Nat} {b : Nat × Nat} {a1 : Int32} {a2 : Int32} :
  xrun k_X7_findTurned 0 C Q [2, 9, 43, 64, 70, 78] K 5 2 [some (.ref 37), some (.int a1), some (.int a2), none] [] (xS I L z) b =
  (if a2 < a1 then K 9 [some (.ref 37), some (.int a1), some (.int a2), some (.int 0)] [] (xS I L z) b else Q none (xS I L z)) := rfl
set_option maxRecDepth 100000 in
theorem b_X7_findTurned_9 {C : xC} {Q : xQ} {K : xK} {I : xI} {L : xL} {z : Bool × Bool × Nat} {b : Nat × Nat} {a1 : Int32} {a2 : Int32} {a3 : Int32} :
  xrun k_X7_findTurned 0 C Q [2, 9, 43, 64, 70, 78] K 18 9 [some (.ref 37), some (.int a1), some (.int a2), some (.int a3)] [] (xS I L z) b =
  (if a3 < (I 10 0) then (if a3 < 6 then C 105 [.ref 10, .int a3, .int a2] (xS I L z) (fun r τ => K 43 [some (.ref 37), some (.int a1), some (.int a2), some (.int a3)] (r.toList ++ [.int a3, .ref 41]) τ b) else C 113 [.ref 41, .int (I 10 0)] (xS I L z) (fun r τ => K 64 [some (.ref 37), some (.int a1), some (.int a2), some (.int a3)] (r.toList ++ []) τ b)) else C 113 [.ref 41, .int (I 10 0)] (xS I L z) (fun r τ => K 64 [some (.ref 37), some (.int a1), some (.int a2), some (.int a3)] (r.toList ++ []) τ b)) := rfl
set_option maxRecDepth 100000 in
theorem b_X7_findTurned_43 {C : xC} {Q : xQ} {K : xK} {I : xI} {L : xL} {z : Bool × Bool × Nat} {b : Nat × Nat} {a1 : Int32} {a2 : Int32} {a3 : Int32} {s1 : Int32} {s0 : Int32} :
  xrun k_X7_findTurned 0 C Q [2, 9, 43, 64, 70, 78] K 3 43 [some (.ref 37), some (.int a1), some (.int a2), some (.int a3)] [.int s0, .int s1, .ref 41] (xS I L z) b =
  (if xin s1 (6) then K 9 [some (.ref 37), some (.int a1), some (.int a2), some (.int (a3 + 1))] [] (xS (xw I 41 (Int32.toNatClampNeg s1) s0) L z) b else False) := rfl
set_option maxRecDepth 100000 in
theorem b_X7_findTurned_64 {C : xC} {Q : xQ} {K : xK} {I : xI} {L : xL} {z : Bool × Bool × Nat} {b : Nat × Nat} {a1 : Int32} {a2 : Int32} {a3 : Int32} {s0 : Int32} :
  xrun k_X7_findTurned 0 C Q [2, 9, 43, 64, 70, 78] K 4 64 [some (.ref 37), some (.int a1), some (.int a2), some (.int a3)] [.int s0] (xS I L z) b =
  C 124 [.ref 37, .int s0] (xS I L z) (fun r τ => K 70 [some (.ref 37), some (.int a1), some (.int a2), some (.int s0)] (r.toList ++ []) τ b) := rfl
set_option maxRecDepth 100000 in
theorem b_X7_findTurned_70 {C : xC} {Q : xQ} {K : xK} {I : xI} {L : xL} {z : Bool × Bool × Nat} {b : Nat × Nat} {a1 : Int32} {a2 : Int32} {a3 : Int32} {s0 : Int32} :
  xrun k_X7_findTurned 0 C Q [2, 9, 43, 64, 70, 78] K 4 70 [some (.ref 37), some (.int a1), some (.int a2), some (.int a3)] [.int s0] (xS I L z) b =
  (if s0 = 0 then C 118 [.ref 37, .int a3] (xS I L z) (fun r τ => K 78 [some (.ref 37), some (.int a1), some (.int a2), some (.int a3)] (r.toList ++ []) τ b) else K 78 [some (.ref 37), some (.int a1), some (.int a2), some (.int a3)] [] (xS I L z) b) := rfl
set_option maxRecDepth 100000 in
theorem b_X7_findTurned_78 {C : xC} {Q : xQ} {K : xK} {I : xI} {L : xL} {z : Bool × Bool × Nat} {b : Nat × Nat} {a1 : Int32} {a2 : Int32} {a3 : Int32} :
  xrun k_X7_findTurned 0 C Q [2, 9, 43, 64, 70, 78] K 2 78 [some (.ref 37), some (.int a1), some (.int a2), some (.int a3)] [] (xS I L z) b =
  K 2 [some (.ref 37), some (.int a1), some (.int (a2 + 1)), some (.int a3)] [] (xS I L z) b := rfl
set_option maxRecDepth 100000 in
theorem b_X7_insertWorld_0 {C : xC} {Q : xQ} {K : xK} {I : xI} {L : xL} {z : Bool × Bool × Nat} {b : Nat × Nat} {a1 : Int32} :
  xrun k_X7_insertWorld 0 C Q [19] K 11 0 [some (.ref 37), some (.int a1), none] [] (xS I L z) b =
  (if (I 37 0) < 0 then Q none (xS I L z) else (if (I 37 0) < 720 then K 19 [some (.ref 37), some (.int a1), some (.int (I 37 0))] [] (xS I L z) b else Q none (xS I L z))) := rfl
set_option maxRecDepth 100000 in
theorem b_X7_insertWorld_19 {C : xC} {Q : xQ} {K : xK} {I : xI} {L : xL} {z : Bool × Bool × Nat} {b : Nat × Nat} {a1 : Int32} {a2 : Int32} :
  xrun k_X7_insertWorld 0 C Q [19] K 22 19 [some (.ref 37), some (.int a1), some (.int a2)] [] (xS I L z) b =
  (if 0 < a2 then (if xin (a2 - 1) (720) then (if a1 < (I 38 (Int32.toNatClampNeg (a2 - 1))) then (if xin (a2 - 1) (720) then (if xin a2 (720) then K 19 [some (.ref 37), some (.int a1), some (.int (a2 + (-1 : Int32)))] [] (xS (xw I 38 (Int32.toNatClampNeg a2) (I 38 (Int32.toNatClampNeg (a2 - 1)))) L z) b else False) else False) else (if xin a2 (720) then Q none (xS (xw (xw I 38 (Int32.toNatClampNeg a2) a1) 37 0 (((xw I 38 (Int32.toNatClampNeg a2) a1) 37 0) + 1)) L z) else False)) else False) else (if xin a2 (720) then Q none (xS (xw (xw I 38 (Int32.toNatClampNeg a2) a1) 37 0 (((xw I 38 (Int32.toNatClampNeg a2) a1) 37 0) + 1)) L z) else False)) := rfl
set_option maxRecDepth 100000 in
theorem b_X7_findPossible_0 {C : xC} {Q : xQ} {K : xK} {I : xI} {L : xL} {z : Bool × Bool × Nat} {b : Nat × Nat}  :
  xrun k_X7_findPossible 0 C Q [9, 11, 30, 59, 75, 82, 109, 122] K 4 0 [some (.ref 37), none, none] [] (xS I L z) b =
  C 302 [.ref 42, .int 63] (xS I L z) (fun r τ => K 9 [some (.ref 37), none, none] (r.toList ++ []) τ b) := rfl
set_option maxRecDepth 100000 in
theorem b_X7_findPossible_9 {C : xC} {Q : xQ} {K : xK} {I : xI} {L : xL} {z : Bool × Bool × Nat} {b : Nat × Nat}  :
  xrun k_X7_findPossible 0 C Q [9, 11, 30, 59, 75, 82, 109, 122] K 2 9 [some (.ref 37), none, none] [] (xS I L z) b =
  K 11 [some (.ref 37), some (.int 0), none] [] (xS I L z) b := rfl
set_option maxRecDepth 100000 in
theorem b_X7_findPossible_11 {C : xC} {Q : xQ} {K : xK} {I : xI} {L : xL} {z : Bool × Bool × Nat} {b : Nat × Nat} {a1 : Int32} :
  xrun k_X7_findPossible 0 C Q [9, 11, 30, 59, 75, 82, 109, 122] K 9 11 [some (.ref 37), some (.int a1), none] [] (xS I L z) b =
  (if a1 < (I 10 3) then C 98 [.ref 10, .int a1] (xS I L z) (fun r τ => K 30 [some (.ref 37), some (.int a1), none] (r.toList ++ []) τ b) else C 302 [.ref 40, .int 0] (xS I L z) (fun r τ => K 75 [some (.ref 37), some (.int a1), none] (r.toList ++ []) τ b)) := rfl
set_option maxRecDepth 100000 in
theorem b_X7_findPossible_30 {C : xC} {Q : xQ} {K : xK} {I : xI} {L : xL} {z : Bool × Bool × Nat} {b : Nat × Nat} {a1 : Int32} {s0 : Int32} :
  xrun k_X7_findPossible 0 C Q [9, 11, 30, 59, 75, 82, 109, 122] K 17 30 [some (.ref 37), some (.int a1), none] [.int s0] (xS I L z) b =
  (if s0 < 0 then K 11 [some (.ref 37), some (.int (a1 + 1)), some (.int s0)] [] (xS I L z) b else (if s0 < 6 then (if xin s0 (6) then C 102 [.ref 10, .int a1] (xS I L z) (fun r τ => K 59 [some (.ref 37), some (.int a1), some (.int s0)] (r.toList ++ [.int (I 42 (Int32.toNatClampNeg s0)), .int s0, .ref 42]) τ b) else False) else K 11 [some (.ref 37), some (.int (a1 + 1)), some (.int s0)] [] (xS I L z) b)) := rfl
set_option maxRecDepth 100000 in
theorem b_X7_findPossible_75 {C : xC} {Q : xQ} {K : xK} {I : xI} {L : xL} {z : Bool × Bool × Nat} {b : Nat × Nat} {a1 : Int32} :
  xrun k_X7_findPossible 0 C Q [9, 11, 30, 59, 75, 82, 109, 122] K 5 75 [some (.ref 37), some (.int a1), none] [] (xS I L z) b =
  K 82 [some (.ref 37), some (.int 0), none] [] (xS (xw I 37 1 0) L z) b := rfl
set_option maxRecDepth 100000 in
theorem b_X7_findPossible_59 {C : xC} {Q : xQ} {K : xK} {I : xI} {L : xL} {z : Bool × Bool × Nat} {b : Nat × Nat} {a1 : Int32} {a2 : Int32} {s2 : Int32} {s1 : Int32} {s0 : Int32} :
  xrun k_X7_findPossible 0 C Q [9, 11, 30, 59, 75, 82, 109, 122] K 4 59 [some (.ref 37), some (.int a1), some (.int a2)] [.int s0, .int s1, .int s2, .ref 42] (xS I L z) b =
  (if xin s2 (6) then K 11 [some (.ref 37), some (.int (a1 + 1)), some (.int a2)] [] (xS (xw I 42 (Int32.toNatClampNeg s2) (s1 &&& s0)) L z) b else False) := rfl
set_option maxRecDepth 100000 in
theorem b_X7_findPossible_82 {C : xC} {Q : xQ} {K : xK} {I : xI} {L : xL} {z : Bool × Bool × Nat} {b : Nat × Nat} {a1 : Int32} :
  xrun k_X7_findPossible 0 C Q [9, 11, 30, 59, 75, 82, 109, 122] K 15 82 [some (.ref 37), some (.int a1), none] [] (xS I L z) b =
  (if a1 < (I 37 0) then (if a1 < 720 then (if xin a1 (720) then C 120 [.ref 37, .int (I 38 (Int32.toNatClampNeg a1))] (xS I L z) (fun r τ => K 109 [some (.ref 37), some (.int a1), none] (r.toList ++ []) τ b) else False) else Q none (xS I L z)) else Q none (xS I L z)) := rfl
set_option maxRecDepth 100000 in
theorem b_X7_findPossible_109 {C : xC} {Q : xQ} {K : xK} {I : xI} {L : xL} {z : Bool × Bool × Nat} {b : Nat × Nat} {a1 : Int32} {s0 : Int32} :
  xrun k_X7_findPossible 0 C Q [9, 11, 30, 59, 75, 82, 109, 122] K 7 109 [some (.ref 37), some (.int a1), none] [.int s0] (xS I L z) b =
  (if s0 = 0 then K 122 [some (.ref 37), some (.int a1), none] [] (xS I L z) b else (if xin a1 (720) then C 121 [.ref 37, .int (I 38 (Int32.toNatClampNeg a1))] (xS I L z) (fun r τ => K 122 [some (.ref 37), some (.int a1), none] (r.toList ++ []) τ b) else False)) := rfl
set_option maxRecDepth 100000 in
theorem b_X7_findPossible_122 {C : xC} {Q : xQ} {K : xK} {I : xI} {L : xL} {z : Bool × Bool × Nat} {b : Nat × Nat} {a1 : Int32} :
  xrun k_X7_findPossible 0 C Q [9, 11, 30, 59, 75, 82, 109, 122] K 2 122 [some (.ref 37), some (.int a1), none] [] (xS I L z) b =
  K 82 [some (.ref 37), some (.int (a1 + 1)), none] [] (xS I L z) b := rfl
set_option maxRecDepth 100000 in
theorem b_X7_isAllowed_0 {C : xC} {Q : xQ} {K : xK} {I : xI} {L : xL} {z : Bool × Bool × Nat} {b : Nat × Nat} {a1 : Int32} :
  xrun k_X7_isAllowed 2 C Q [2] K 2 0 [some (.ref 37), some (.int a1), none] [] (xS I L z) b =
  K 2 [some (.ref 37), some (.int a1), some (.int 0)] [] (xS I L z) b := rfl
set_option maxRecDepth 100000 in
theorem b_X7_isAllowed_2 {C : xC} {Q : xQ} {K : xK} {I : xI} {L : xL} {z : Bool × Bool × Nat} {b : Nat × Nat} {a1 : Int32} {a2 : Int32} :
  xrun k_X7_isAllowed 2 C Q [2] K 27 2 [some (.ref 37), some (.int a1), some (.int a2)] [] (xS I L z) b =
  (if a2 < (I 10 0) then (if a2 < 6 then (if xin a2 (6) then (if xin a2 (6) then (if (((I 42 (Int32.toNatClampNeg a2)) >>> (((a1 >>> ((I 2 (Int32.toNatClampNeg a2)) &&& 31)) &&& 7) &&& 31)) &&& 1) = 0 then Q (some (.int 0)) (xS I L z) else K 2 [some (.ref 37), some (.int a1), some (.int (a2 + 1))] [] (xS I L z) b) else False) else False) else Q (some (.int 1)) (xS I L z)) else Q (some (.int 1)) (xS I L z)) := rfl
set_option maxRecDepth 100000 in
theorem b_X7_takePossible_0 {C : xC} {Q : xQ} {K : xK} {I : xI} {L : xL} {z : Bool × Bool × Nat} {b : Nat × Nat} {a1 : Int32} :
  xrun k_X7_takePossible 0 C Q [35] K 20 0 [some (.ref 37), some (.int a1), none] [] (xS I L z) b =
  (if (I 37 1) < 720 then (if xin (I 37 1) (720) then K 35 [some (.ref 37), some (.int a1), some (.int 0)] [] (xS (xw (xw I 39 (Int32.toNatClampNeg (I 37 1)) a1) 37 1 (((xw I 39 (Int32.toNatClampNeg (I 37 1)) a1) 37 1) + 1)) L z) b else False) else Q none (xS I L z)) := rfl
set_option maxRecDepth 100000 in
theorem b_X7_takePossible_35 {C : xC} {Q : xQ} {K : xK} {I : xI} {L : xL} {z : Bool × Bool × Nat} {b : Nat × Nat} {a1 : Int32} {a2 : Int32} :
  xrun k_X7_takePossible 0 C Q [35] K 29 35 [some (.ref 37), some (.int a1), some (.int a2)] [] (xS I L z) b =
  (if a2 < (I 10 0) then (if a2 < 6 then (if xin a2 (6) then (if xin ((a2 * 8) + ((a1 >>> ((I 2 (Int32.toNatClampNeg a2)) &&& 31)) &&& 7)) (48) then (if xin ((a2 * 8) + ((a1 >>> ((I 2 (Int32.toNatClampNeg a2)) &&& 31)) &&& 7)) (48) then K 35 [some (.ref 37), some (.int a1), some (.int (a2 + 1))] [] (xS (xw I 40 (Int32.toNatClampNeg ((a2 * 8) + ((a1 >>> ((I 2 (Int32.toNatClampNeg a2)) &&& 31)) &&& 7))) ((I 40 (Int32.toNatClampNeg ((a2 * 8) + ((a1 >>> ((I 2 (Int32.toNatClampNeg a2)) &&& 31)) &&& 7)))) + 1)) L z) b else False) else False) else False) else Q none (xS I L z)) else Q none (xS I L z)) := rfl
set_option maxRecDepth 100000 in
theorem b_X7_isWorld_0 {C : xC} {Q : xQ} {K : xK} {I : xI} {L : xL} {z : Bool × Bool × Nat} {b : Nat × Nat} {a1 : Int32} :
  xrun k_X7_isWorld 2 C Q [2] K 2 0 [some (.ref 37), some (.int a1), none] [] (xS I L z) b =
  K 2 [some (.ref 37), some (.int a1), some (.int 0)] [] (xS I L z) b := rfl
set_option maxRecDepth 100000 in
theorem b_X7_isWorld_2 {C : xC} {Q : xQ} {K : xK} {I : xI} {L : xL} {z : Bool × Bool × Nat} {b : Nat × Nat} {a1 : Int32} {a2 : Int32} :
  xrun k_X7_isWorld 2 C Q [2] K 17 2 [some (.ref 37), some (.int a1), some (.int a2)] [] (xS I L z) b =
  (if a2 < (I 37 0) then (if a2 < 720 then (if xin a2 (720) then (if (I 38 (Int32.toNatClampNeg a2)) = a1 then Q (some (.int 1)) (xS I L z) else K 2 [some (.ref 37), some (.int a1), some (.int (a2 + 1))] [] (xS I L z) b) else False) else Q (some (.int 0)) (xS I L z)) else Q (some (.int 0)) (xS I L z)) := rfl
set_option maxRecDepth 100000 in
theorem b_X7_howManyHave_0 {C : xC} {Q : xQ} {K : xK} {I : xI} {L : xL} {z : Bool × Bool × Nat} {b : Nat × Nat} {a1 : Int32} {a2 : Int32} {a3 : Int32} :
  xrun k_X7_howManyHave 1 C Q [6, 23, 36] K 4 0 [some (.ref 37), some (.int a1), some (.int a2), some (.int a3), none, none] [] (xS I L z) b =
  K 6 [some (.ref 37), some (.int a1), some (.int a2), some (.int a3), some (.int 0), some (.int 0)] [] (xS I L z) b := rfl
set_option maxRecDepth 100000 in
theorem b_X7_howManyHave_6 {C : xC} {Q : xQ} {K : xK} {I : xI} {L : xL} {z : Bool × Bool × Nat} {b : Nat × Nat} {a1 : Int32} {a2 : Int32} {a3 : Int32} {a4 : Int32} {a5 : Int32} :
  xrun k_X7_howManyHave 1 C Q [6, 23, 36] K 8 6 [some (.ref 37), some (.int a1), some (.int a2), some (.int a3), some (.int a4), some (.int a5)] [] (xS I L z) b =
  (if a5 < 6 then C 96 [.ref 10, .int a2, .int a5] (xS I L z) (fun r τ => K 23 [some (.ref 37), some (.int a1), some (.int a2), some (.int a3), some (.int a4), some (.int a5)] (r.toList ++ []) τ b) else Q (some (.int a4)) (xS I L z)) := rfl
set_option maxRecDepth 100000 in
theorem b_X7_howManyHave_23 {C : xC} {Q : xQ} {K : xK} {I : xI} {L : xL} {z : Bool × Bool × Nat} {b : Nat × Nat} {a1 : Int32} {a2 : Int32} {a3 : Int32} {a4 : Int32} {a5 : Int32} {s0 : Int32} :
  xrun k_X7_howManyHave 1 C Q [6, 23, 36] K 7 23 [some (.ref 37), some (.int a1), some (.int a2), some (.int a3), some (.int a4), some (.int a5)] [.int s0] (xS I L z) b =
  (if s0 = a3 then C 125 [.ref 37, .int a1, .int a5] (xS I L z) (fun r τ => K 36 [some (.ref 37), some (.int a1), some (.int a2), some (.int a3), some (.int a4), some (.int a5)] (r.toList ++ [.int a4]) τ b) else K 6 [some (.ref 37), some (.int a1), some (.int a2), some (.int a3), some (.int a4), some (.int (a5 + 1))] [] (xS I L z) b) := rfl
set_option maxRecDepth 100000 in
theorem b_X7_howManyHave_36 {C : xC} {Q : xQ} {K : xK} {I : xI} {L : xL} {z : Bool × Bool × Nat} {b : Nat × Nat} {a1 : Int32} {a2 : Int32} {a3 : Int32} {a4 : Int32} {a5 : Int32} {s1 : Int32} {s0 : Int32} :
  xrun k_X7_howManyHave 1 C Q [6, 23, 36] K 4 36 [some (.ref 37), some (.int a1), some (.int a2), some (.int a3), some (.int a4), some (.int a5)] [.int s0, .int s1] (xS I L z) b =
  K 6 [some (.ref 37), some (.int a1), some (.int a2), some (.int a3), some (.int (s1 + s0)), some (.int (a5 + 1))] [] (xS I L z) b := rfl
set_option maxRecDepth 100000 in
theorem b_X7_sortsAt_0 {C : xC} {Q : xQ} {K : xK} {I : xI} {L : xL} {z : Bool × Bool × Nat} {b : Nat × Nat} {a1 : Int32} :
  xrun k_X7_sortsAt 1 C Q [4, 16] K 4 0 [some (.ref 37), some (.int a1), none, none] [] (xS I L z) b =
  K 4 [some (.ref 37), some (.int a1), some (.int 0), some (.int 0)] [] (xS I L z) b := rfl
set_option maxRecDepth 100000 in
theorem b_X7_sortsAt_4 {C : xC} {Q : xQ} {K : xK} {I : xI} {L : xL} {z : Bool × Bool × Nat} {b : Nat × Nat} {a1 : Int32} {a2 : Int32} {a3 : Int32} :
  xrun k_X7_sortsAt 1 C Q [4, 16] K 7 4 [some (.ref 37), some (.int a1), some (.int a2), some (.int a3)] [] (xS I L z) b =
  (if a3 < 6 then C 125 [.ref 37, .int a1, .int a3] (xS I L z) (fun r τ => K 16 [some (.ref 37), some (.int a1), some (.int a2), some (.int a3)] (r.toList ++ []) τ b) else Q (some (.int a2)) (xS I L z)) := rfl
set_option maxRecDepth 100000 in
theorem b_X7_sortsAt_16 {C : xC} {Q : xQ} {K : xK} {I : xI} {L : xL} {z : Bool × Bool × Nat} {b : Nat × Nat} {a1 : Int32} {a2 : Int32} {a3 : Int32} {s0 : Int32} :
  xrun k_X7_sortsAt 1 C Q [4, 16] K 9 16 [some (.ref 37), some (.int a1), some (.int a2), some (.int a3)] [.int s0] (xS I L z) b =
  (if 0 < s0 then K 4 [some (.ref 37), some (.int a1), some (.int (a2 ||| (1 <<< (a3 &&& 31)))), some (.int (a3 + 1))] [] (xS I L z) b else K 4 [some (.ref 37), some (.int a1), some (.int a2), some (.int (a3 + 1))] [] (xS I L z) b) := rfl
set_option maxRecDepth 100000 in
theorem b_X7_likeliestAt_0 {C : xC} {Q : xQ} {K : xK} {I : xI} {L : xL} {z : Bool × Bool × Nat} {b : Nat × Nat} {a1 : Int32} :
  xrun k_X7_likeliestAt 1 C Q [4, 16, 22] K 4 0 [some (.ref 37), some (.int a1), none, none] [] (xS I L z) b =
  K 4 [some (.ref 37), some (.int a1), some (.int 0), some (.int 1)] [] (xS I L z) b := rfl
set_option maxRecDepth 100000 in
theorem b_X7_likeliestAt_4 {C : xC} {Q : xQ} {K : xK} {I : xI} {L : xL} {z : Bool × Bool × Nat} {b : Nat × Nat} {a1 : Int32} {a2 : Int32} {a3 : Int32} :
  xrun k_X7_likeliestAt 1 C Q [4, 16, 22] K 7 4 [some (.ref 37), some (.int a1), some (.int a2), some (.int a3)] [] (xS I L z) b =
  (if a3 < 6 then C 125 [.ref 37, .int a1, .int a3] (xS I L z) (fun r τ => K 16 [some (.ref 37), some (.int a1), some (.int a2), some (.int a3)] (r.toList ++ []) τ b) else Q (some (.int a2)) (xS I L z)) := rfl
set_option maxRecDepth 100000 in
theorem b_X7_likeliestAt_16 {C : xC} {Q : xQ} {K : xK} {I : xI} {L : xL} {z : Bool × Bool × Nat} {b : Nat × Nat} {a1 : Int32} {a2 : Int32} {a3 : Int32} {s0 : Int32} :
  xrun k_X7_likeliestAt 1 C Q [4, 16, 22] K 4 16 [some (.ref 37), some (.int a1), some (.int a2), some (.int a3)] [.int s0] (xS I L z) b =
  C 125 [.ref 37, .int a1, .int a2] (xS I L z) (fun r τ => K 22 [some (.ref 37), some (.int a1), some (.int a2), some (.int a3)] (r.toList ++ [.int s0]) τ b) := rfl
set_option maxRecDepth 100000 in
theorem b_X7_likeliestAt_22 {C : xC} {Q : xQ} {K : xK} {I : xI} {L : xL} {z : Bool × Bool × Nat} {b : Nat × Nat} {a1 : Int32} {a2 : Int32} {a3 : Int32} {s1 : Int32} {s0 : Int32} :
  xrun k_X7_likeliestAt 1 C Q [4, 16, 22] K 5 22 [some (.ref 37), some (.int a1), some (.int a2), some (.int a3)] [.int s0, .int s1] (xS I L z) b =
  (if s0 < s1 then K 4 [some (.ref 37), some (.int a1), some (.int a3), some (.int (a3 + 1))] [] (xS I L z) b else K 4 [some (.ref 37), some (.int a1), some (.int a2), some (.int (a3 + 1))] [] (xS I L z) b) := rfl
set_option maxRecDepth 100000 in
theorem b_X7_isKnown_0 {C : xC} {Q : xQ} {K : xK} {I : xI} {L : xL} {z : Bool × Bool × Nat} {b : Nat × Nat} {a1 : Int32} :
  xrun k_X7_isKnown 2 C Q [5, 8] K 3 0 [some (.ref 37), some (.int a1)] [] (xS I L z) b =
  C 127 [.ref 37, .int a1] (xS I L z) (fun r τ => K 5 [some (.ref 37), some (.int a1)] (r.toList ++ []) τ b) := rfl
set_option maxRecDepth 100000 in
theorem b_X7_isKnown_5 {C : xC} {Q : xQ} {K : xK} {I : xI} {L : xL} {z : Bool × Bool × Nat} {b : Nat × Nat} {a1 : Int32} {s0 : Int32} :
  xrun k_X7_isKnown 2 C Q [5, 8] K 1 5 [some (.ref 37), some (.int a1)] [.int s0] (xS I L z) b =
  C 299 [.int s0] (xS I L z) (fun r τ => K 8 [some (.ref 37), some (.int a1)] (r.toList ++ []) τ b) := rfl
set_option maxRecDepth 100000 in
theorem b_X7_isKnown_8 {C : xC} {Q : xQ} {K : xK} {I : xI} {L : xL} {z : Bool × Bool × Nat} {b : Nat × Nat} {a1 : Int32} {s0 : Int32} :
  xrun k_X7_isKnown 2 C Q [5, 8] K 5 8 [some (.ref 37), some (.int a1)] [.int s0] (xS I L z) b =
  (if 1 < s0 then Q (some (.int 0)) (xS I L z) else Q (some (.int 1)) (xS I L z)) := rfl
set_option maxRecDepth 100000 in
theorem b_X7_knownPlaces_0 {C : xC} {Q : xQ} {K : xK} {I : xI} {L : xL} {z : Bool × Bool × Nat} {b : Nat × Nat}  :
  xrun k_X7_knownPlaces 1 C Q [4, 20] K 4 0 [some (.ref 37), none, none] [] (xS I L z) b =
  K 4 [some (.ref 37), some (.int 0), some (.int 0)] [] (xS I L z) b := rfl
set_option maxRecDepth 100000 in
theorem b_X7_knownPlaces_4 {C : xC} {Q : xQ} {K : xK} {I : xI} {L : xL} {z : Bool × Bool × Nat} {b : Nat × Nat} {a1 : Int32} {a2 : Int32} :
  xrun k_X7_knownPlaces 1 C Q [4, 20] K 8 4 [some (.ref 37), some (.int a1), some (.int a2)] [] (xS I L z) b =
  (if a2 < (I 10 0) then C 129 [.ref 37, .int a2] (xS I L z) (fun r τ => K 20 [some (.ref 37), some (.int a1), some (.int a2)] (r.toList ++ []) τ b) else Q (some (.int a1)) (xS I L z)) := rfl
set_option maxRecDepth 100000 in
theorem b_X7_knownPlaces_20 {C : xC} {Q : xQ} {K : xK} {I : xI} {L : xL} {z : Bool × Bool × Nat} {b : Nat × Nat} {a1 : Int32} {a2 : Int32} {s0 : Int32} :
  xrun k_X7_knownPlaces 1 C Q [4, 20] K 9 20 [some (.ref 37), some (.int a1), some (.int a2)] [.int s0] (xS I L z) b =
  (if s0 = 0 then K 4 [some (.ref 37), some (.int a1), some (.int (a2 + 1))] [] (xS I L z) b else K 4 [some (.ref 37), some (.int (a1 ||| ((1 : Int32) <<< (a2 &&& 31)))), some (.int (a2 + 1))] [] (xS I L z) b) := rfl
set_option maxRecDepth 100000 in
theorem b_X7_oddAt_0 {C : xC} {Q : xQ} {K : xK} {I : xI} {L : xL} {z : Bool × Bool × Nat} {b : Nat × Nat} {a1 : Int32} :
  xrun k_X7_oddAt 1 C Q [4, 18, 29] K 4 0 [some (.ref 37), some (.int a1), none, none] [] (xS I L z) b =
  K 4 [some (.ref 37), some (.int a1), some (.int 0), some (.int 0)] [] (xS I L z) b := rfl
set_option maxRecDepth 100000 in
theorem b_X7_oddAt_4 {C : xC} {Q : xQ} {K : xK} {I : xI} {L : xL} {z : Bool × Bool × Nat} {b : Nat × Nat} {a1 : Int32} {a2 : Int32} {a3 : Int32} :
  xrun k_X7_oddAt 1 C Q [4, 18, 29] K 7 4 [some (.ref 37), some (.int a1), some (.int a2), some (.int a3)] [] (xS I L z) b =
  (if a3 < 6 then C 104 [.ref 10, .int a3] (xS I L z) (fun r τ => K 18 [some (.ref 37), some (.int a1), some (.int a2), some (.int a3)] (r.toList ++ []) τ b) else Q (some (.int a2)) (xS I L z)) := rfl
set_option maxRecDepth 100000 in
theorem b_X7_oddAt_18 {C : xC} {Q : xQ} {K : xK} {I : xI} {L : xL} {z : Bool × Bool × Nat} {b : Nat × Nat} {a1 : Int32} {a2 : Int32} {a3 : Int32} {s0 : Int32} :
  xrun k_X7_oddAt 1 C Q [4, 18, 29] K 7 18 [some (.ref 37), some (.int a1), some (.int a2), some (.int a3)] [.int s0] (xS I L z) b =
  (if s0 = 1 then C 125 [.ref 37, .int a1, .int a3] (xS I L z) (fun r τ => K 29 [some (.ref 37), some (.int a1), some (.int a2), some (.int a3)] (r.toList ++ [.int a2]) τ b) else K 4 [some (.ref 37), some (.int a1), some (.int a2), some (.int (a3 + 1))] [] (xS I L z) b) := rfl
set_option maxRecDepth 100000 in
theorem b_X7_oddAt_29 {C : xC} {Q : xQ} {K : xK} {I : xI} {L : xL} {z : Bool × Bool × Nat} {b : Nat × Nat} {a1 : Int32} {a2 : Int32} {a3 : Int32} {s1 : Int32} {s0 : Int32} :
  xrun k_X7_oddAt 1 C Q [4, 18, 29] K 4 29 [some (.ref 37), some (.int a1), some (.int a2), some (.int a3)] [.int s0, .int s1] (xS I L z) b =
  K 4 [some (.ref 37), some (.int a1), some (.int (s1 + s0)), some (.int (a3 + 1))] [] (xS I L z) b := rfl
set_option maxRecDepth 100000 in
theorem b_X8_row_0 {C : xC} {Q : xQ} {K : xK} {I : xI} {L : xL} {z : Bool × Bool × Nat} {b : Nat × Nat} {a1 : Int32} {a2 : Int32} {a3 : Int32} :
  xrun k_X8_row 1 C Q [4, 11, 18, 27, 38] K 2 0 [some (.ref 9), some (.int a1), some (.int a2), some (.int a3)] [] (xS I L z) b =
  C 35 [.int a1] (xS I L z) (fun r τ => K 4 [some (.ref 9), some (.int a1), some (.int a2), some (.int a3)] (r.toList ++ []) τ b) := rfl
set_option maxRecDepth 100000 in
theorem b_X8_row_4 {C : xC} {Q : xQ} {K : xK} {I : xI} {L : xL} {z : Bool × Bool × Nat} {b : Nat × Nat} {a1 : Int32} {a2 : Int32} {a3 : Int32} {s0 : Int32} :
  xrun k_X8_row 1 C Q [4, 11, 18, 27, 38] K 4 4 [some (.ref 9), some (.int a1), some (.int a2), some (.int a3)] [.int s0] (xS I L z) b =
  (if s0 = 0 then C 177 [.ref 9, .int (-2 : Int32)] (xS I L z) (fun r τ => K 27 [some (.ref 9), some (.int a1), some (.int a2), some (.int a3)] (r.toList ++ []) τ b) else C 36 [.int a2] (xS I L z) (fun r τ => K 11 [some (.ref 9), some (.int a1), some (.int a2), some (.int a3)] (r.toList ++ []) τ b)) := rfl
set_option maxRecDepth 100000 in
theorem b_X8_row_11 {C : xC} {Q : xQ} {K : xK} {I : xI} {L : xL} {z : Bool × Bool × Nat} {b : Nat × Nat} {a1 : Int32} {a2 : Int32} {a3 : Int32} {s0 : Int32} :
  xrun k_X8_row 1 C Q [4, 11, 18, 27, 38] K 4 11 [some (.ref 9), some (.int a1), some (.int a2), some (.int a3)] [.int s0] (xS I L z) b =
  (if s0 = 0 then C 177 [.ref 9, .int (-2 : Int32)] (xS I L z) (fun r τ => K 27 [some (.ref 9), some (.int a1), some (.int a2), some (.int a3)] (r.toList ++ []) τ b) else C 37 [.int a3] (xS I L z) (fun r τ => K 18 [some (.ref 9), some (.int a1), some (.int a2), some (.int a3)] (r.toList ++ []) τ b)) := rfl
set_option maxRecDepth 100000 in
theorem b_X8_row_27 {C : xC} {Q : xQ} {K : xK} {I : xI} {L : xL} {z : Bool × Bool × Nat} {b : Nat × Nat} {a1 : Int32} {a2 : Int32} {a3 : Int32} {s0 : Int32} :
  xrun k_X8_row 1 C Q [4, 11, 18, 27, 38] K 1 27 [some (.ref 9), some (.int a1), some (.int a2), some (.int a3)] [.int s0] (xS I L z) b =
  Q (some (.int s0)) (xS I L z) := rfl
set_option maxRecDepth 100000 in
theorem b_X8_row_18 {C : xC} {Q : xQ} {K : xK} {I : xI} {L : xL} {z : Bool × Bool × Nat} {b : Nat × Nat} {a1 : Int32} {a2 : Int32} {a3 : Int32} {s0 : Int32} :
  xrun k_X8_row 1 C Q [4, 11, 18, 27, 38] K 7 18 [some (.ref 9), some (.int a1), some (.int a2), some (.int a3)] [.int s0] (xS I L z) b =
  (if s0 = 0 then C 177 [.ref 9, .int (-2 : Int32)] (xS I L z) (fun r τ => K 27 [some (.ref 9), some (.int a1), some (.int a2), some (.int a3)] (r.toList ++ []) τ b) else C 44 [.ref 57, .int a1, .int a2, .int a3] (xS I L z) (fun r τ => K 38 [some (.ref 9), some (.int a1), some (.int a2), some (.int a3)] (r.toList ++ []) τ b)) := rfl
set_option maxRecDepth 100000 in
theorem b_X8_row_38 {C : xC} {Q : xQ} {K : xK} {I : xI} {L : xL} {z : Bool × Bool × Nat} {b : Nat × Nat} {a1 : Int32} {a2 : Int32} {a3 : Int32} :
  xrun k_X8_row 1 C Q [4, 11, 18, 27, 38] K 2 38 [some (.ref 9), some (.int a1), some (.int a2), some (.int a3)] [] (xS I L z) b =
  Q (some (.int 1)) (xS I L z) := rfl
set_option maxRecDepth 100000 in
theorem b_X8_copy_0 {C : xC} {Q : xQ} {K : xK} {I : xI} {L : xL} {z : Bool × Bool × Nat} {b : Nat × Nat} {a1 : Int32} {a2 : Int32} {a3 : Int32} {a4 : Int32} {a5 : Int32} :
  xrun k_X8_copy 1 C Q [9, 22, 34, 49, 58, 73] K 5 0 [some (.ref 9), some (.int a1), some (.int a2), some (.int a3), some (.int a4), some (.int a5), none] [] (xS I L z) b =
  C 41 [.ref 57, .int a1, .int a2] (xS I L z) (fun r τ => K 9 [some (.ref 9), some (.int a1), some (.int a2), some (.int a3), some (.int a4), some (.int a5), none] (r.toList ++ []) τ b) := rfl
set_option maxRecDepth 100000 in
theorem b_X8_copy_9 {C : xC} {Q : xQ} {K : xK} {I : xI} {L : xL} {z : Bool × Bool × Nat} {b : Nat × Nat} {a1 : Int32} {a2 : Int32} {a3 : Int32} {a4 : Int32} {a5 : Int32} {s0 : Int32} :
  xrun k_X8_copy 1 C Q [9, 22, 34, 49, 58, 73] K 9 9 [some (.ref 9), some (.int a1), some (.int a2), some (.int a3), some (.int a4), some (.int a5), none] [.int s0] (xS I L z) b =
  (if s0 = 0 then C 43 [.ref 57, .int a1, .int a3, .int a5] (xS I L z) (fun r τ => K 34 [some (.ref 9), some (.int a1), some (.int a2), some (.int a3), some (.int a4), some (.int a5), some (.int s0)] (r.toList ++ []) τ b) else C 177 [.ref 9, .int s0] (xS I L z) (fun r τ => K 22 [some (.ref 9), some (.int a1), some (.int a2), some (.int a3), some (.int a4), some (.int a5), some (.int s0)] (r.toList ++ []) τ b)) := rfl
set_option maxRecDepth 100000 in
theorem b_X8_copy_22 {C : xC} {Q : xQ} {K : xK} {I : xI} {L : xL} {z : Bool × Bool × Nat} {b : Nat × Nat} {a1 : Int32} {a2 : Int32} {a3 : Int32} {a4 : Int32} {a5 : Int32} {a6 : Int32} {s0 : Int32} :
  xrun k_X8_copy 1 C Q [9, 22, 34, 49, 58, 73] K 1 22 [some (.ref 9), some (.int a1), some (.int a2), some (.int a3), some (.int a4), some (.int a5), some (.int a6)] [.int s0] (xS I L z) b =
  Q (some (.int s0)) (xS I L z) := rfl
set_option maxRecDepth 100000 in
theorem b_X8_copy_34 {C : xC} {Q : xQ} {K : xK} {I : xI} {L : xL} {z : Bool × Bool × Nat} {b : Nat × Nat} {a1 : Int32} {a2 : Int32} {a3 : Int32} {a4 : Int32} {a5 : Int32} {a6 : Int32} {s0 : Int32} :
  xrun k_X8_copy 1 C Q [9, 22, 34, 49, 58, 73] K 7 34 [some (.ref 9), some (.int a1), some (.int a2), some (.int a3), some (.int a4), some (.int a5), some (.int a6)] [.int s0] (xS I L z) b =
  (if s0 = 0 then C 177 [.ref 9, .int (-2 : Int32)] (xS I L z) (fun r τ => K 58 [some (.ref 9), some (.int a1), some (.int a2), some (.int a3), some (.int a4), some (.int a5), some (.int a6)] (r.toList ++ []) τ b) else C 43 [.ref 57, .int a2, .int a4, .int a5] (xS I L z) (fun r τ => K 49 [some (.ref 9), some (.int a1), some (.int a2), some (.int a3), some (.int a4), some (.int a5), some (.int a6)] (r.toList ++ []) τ b)) := rfl
set_option maxRecDepth 100000 in
theorem b_X8_copy_49 {C : xC} {Q : xQ} {K : xK} {I : xI} {L : xL} {z : Bool × Bool × Nat} {b : Nat × Nat} {a1 : Int32} {a2 : Int32} {a3 : Int32} {a4 : Int32} {a5 : Int32} {a6 : Int32} {s0 : Int32} :
  xrun k_X8_copy 1 C Q [9, 22, 34, 49, 58, 73] K 9 49 [some (.ref 9), some (.int a1), some (.int a2), some (.int a3), some (.int a4), some (.int a5), some (.int a6)] [.int s0] (xS I L z) b =
  (if s0 = 0 then C 177 [.ref 9, .int (-2 : Int32)] (xS I L z) (fun r τ => K 58 [some (.ref 9), some (.int a1), some (.int a2), some (.int a3), some (.int a4), some (.int a5), some (.int a6)] (r.toList ++ []) τ b) else C 49 [.ref 57, .int a1, .int a2, .int a3, .int a4, .int a5] (xS I L z) (fun r τ => K 73 [some (.ref 9), some (.int a1), some (.int a2), some (.int a3), some (.int a4), some (.int a5), some (.int a6)] (r.toList ++ []) τ b)) := rfl
set_option maxRecDepth 100000 in
theorem b_X8_copy_58 {C : xC} {Q : xQ} {K : xK} {I : xI} {L : xL} {z : Bool × Bool × Nat} {b : Nat × Nat} {a1 : Int32} {a2 : Int32} {a3 : Int32} {a4 : Int32} {a5 : Int32} {a6 : Int32} {s0 : Int32} :
  xrun k_X8_copy 1 C Q [9, 22, 34, 49, 58, 73] K 1 58 [some (.ref 9), some (.int a1), some (.int a2), some (.int a3), some (.int a4), some (.int a5), some (.int a6)] [.int s0] (xS I L z) b =
  Q (some (.int s0)) (xS I L z) := rfl
set_option maxRecDepth 100000 in
theorem b_X8_copy_73 {C : xC} {Q : xQ} {K : xK} {I : xI} {L : xL} {z : Bool × Bool × Nat} {b : Nat × Nat} {a1 : Int32} {a2 : Int32} {a3 : Int32} {a4 : Int32} {a5 : Int32} {a6 : Int32} :
  xrun k_X8_copy 1 C Q [9, 22, 34, 49, 58, 73] K 2 73 [some (.ref 9), some (.int a1), some (.int a2), some (.int a3), some (.int a4), some (.int a5), some (.int a6)] [] (xS I L z) b =
  Q (some (.int a5)) (xS I L z) := rfl
set_option maxRecDepth 100000 in
theorem b_X8_says_0 {C : xC} {Q : xQ} {K : xK} {I : xI} {L : xL} {z : Bool × Bool × Nat} {b : Nat × Nat} {a1 : Int32} {a2 : Int32} :
  xrun k_X8_says 1 C Q [4, 11, 20, 29, 41, 57, 69, 73, 82, 96, 104, 113] K 2 0 [some (.ref 9), some (.int a1), some (.int a2), none, none] [] (xS I L z) b =
  C 35 [.int a1] (xS I L z) (fun r τ => K 4 [some (.ref 9), some (.int a1), some (.int a2), none, none] (r.toList ++ []) τ b) := rfl
set_option maxRecDepth 100000 in
theorem b_X8_says_4 {C : xC} {Q : xQ} {K : xK} {I : xI} {L : xL} {z : Bool × Bool × Nat} {b : Nat × Nat} {a1 : Int32} {a2 : Int32} {s0 : Int32} :
  xrun k_X8_says 1 C Q [4, 11, 20, 29, 41, 57, 69, 73, 82, 96, 104, 113] K 4 4 [some (.ref 9), some (.int a1), some (.int a2), none, none] [.int s0] (xS I L z) b =
  (if s0 = 0 then C 177 [.ref 9, .int (-2 : Int32)] (xS I L z) (fun r τ => K 20 [some (.ref 9), some (.int a1), some (.int a2), none, none] (r.toList ++ []) τ b) else C 73 [.int a2] (xS I L z) (fun r τ => K 11 [some (.ref 9), some (.int a1), some (.int a2), none, none] (r.toList ++ []) τ b)) := rfl
set_option maxRecDepth 100000 in
theorem b_X8_says_11 {C : xC} {Q : xQ} {K : xK} {I : xI} {L : xL} {z : Bool × Bool × Nat} {b : Nat × Nat} {a1 : Int32} {a2 : Int32} {s0 : Int32} :
  xrun k_X8_says 1 C Q [4, 11, 20, 29, 41, 57, 69, 73, 82, 96, 104, 113] K 5 11 [some (.ref 9), some (.int a1), some (.int a2), none, none] [.int s0] (xS I L z) b =
  (if s0 = 0 then C 177 [.ref 9, .int (-2 : Int32)] (xS I L z) (fun r τ => K 20 [some (.ref 9), some (.int a1), some (.int a2), none, none] (r.toList ++ []) τ b) else C 38 [.ref 57, .int a1] (xS I L z) (fun r τ => K 29 [some (.ref 9), some (.int a1), some (.int a2), none, none] (r.toList ++ []) τ b)) := rfl
set_option maxRecDepth 100000 in
theorem b_X8_says_20 {C : xC} {Q : xQ} {K : xK} {I : xI} {L : xL} {z : Bool × Bool × Nat} {b : Nat × Nat} {a1 : Int32} {a2 : Int32} {s0 : Int32} :
  xrun k_X8_says 1 C Q [4, 11, 20, 29, 41, 57, 69, 73, 82, 96, 104, 113] K 1 20 [some (.ref 9), some (.int a1), some (.int a2), none, none] [.int s0] (xS I L z) b =
  Q (some (.int s0)) (xS I L z) := rfl
set_option maxRecDepth 100000 in
theorem b_X8_says_29 {C : xC} {Q : xQ} {K : xK} {I : xI} {L : xL} {z : Bool × Bool × Nat} {b : Nat × Nat} {a1 : Int32} {a2 : Int32} {s0 : Int32} :
  xrun k_X8_says 1 C Q [4, 11, 20, 29, 41, 57, 69, 73, 82, 96, 104, 113] K 12 29 [some (.ref 9), some (.int a1), some (.int a2), none, none] [.int s0] (xS I L z) b =
  (if s0 = (-1 : Int32) then C 177 [.ref 9, .int (-4 : Int32)] (xS I L z) (fun r τ => K 41 [some (.ref 9), some (.int a1), some (.int a2), some (.int s0), none] (r.toList ++ []) τ b) else C 83 [.ref 10, .int (s0 - 10)] (xS I L z) (fun r τ => K 57 [some (.ref 9), some (.int a1), some (.int a2), some (.int s0), some (.int (s0 - 10))] (r.toList ++ []) τ b)) := rfl
set_option maxRecDepth 100000 in
theorem b_X8_says_41 {C : xC} {Q : xQ} {K : xK} {I : xI} {L : xL} {z : Bool × Bool × Nat} {b : Nat × Nat} {a1 : Int32} {a2 : Int32} {a3 : Int32} {s0 : Int32} :
  xrun k_X8_says 1 C Q [4, 11, 20, 29, 41, 57, 69, 73, 82, 96, 104, 113] K 1 41 [some (.ref 9), some (.int a1), some (.int a2), some (.int a3), none] [.int s0] (xS I L z) b =
  Q (some (.int s0)) (xS I L z) := rfl
set_option maxRecDepth 100000 in
theorem b_X8_says_57 {C : xC} {Q : xQ} {K : xK} {I : xI} {L : xL} {z : Bool × Bool × Nat} {b : Nat × Nat} {a1 : Int32} {a2 : Int32} {a3 : Int32} {a4 : Int32} {s0 : Int32} :
  xrun k_X8_says 1 C Q [4, 11, 20, 29, 41, 57, 69, 73, 82, 96, 104, 113] K 5 57 [some (.ref 9), some (.int a1), some (.int a2), some (.int a3), some (.int a4)] [.int s0] (xS I L z) b =
  (if s0 = 0 then C 177 [.ref 9, .int (-3 : Int32)] (xS I L z) (fun r τ => K 82 [some (.ref 9), some (.int a1), some (.int a2), some (.int a3), some (.int a4)] (r.toList ++ []) τ b) else C 84 [.ref 10, .int a4] (xS I L z) (fun r τ => K 69 [some (.ref 9), some (.int a1), some (.int a2), some (.int a3), some (.int a4)] (r.toList ++ []) τ b)) := rfl
set_option maxRecDepth 100000 in
theorem b_X8_says_69 {C : xC} {Q : xQ} {K : xK} {I : xI} {L : xL} {z : Bool × Bool × Nat} {b : Nat × Nat} {a1 : Int32} {a2 : Int32} {a3 : Int32} {a4 : Int32} {s0 : Int32} :
  xrun k_X8_says 1 C Q [4, 11, 20, 29, 41, 57, 69, 73, 82, 96, 104, 113] K 2 69 [some (.ref 9), some (.int a1), some (.int a2), some (.int a3), some (.int a4)] [.int s0] (xS I L z) b =
  C 74 [.int s0, .int a2] (xS I L z) (fun r τ => K 73 [some (.ref 9), some (.int a1), some (.int a2), some (.int a3), some (.int a4)] (r.toList ++ []) τ b) := rfl
set_option maxRecDepth 100000 in
theorem b_X8_says_82 {C : xC} {Q : xQ} {K : xK} {I : xI} {L : xL} {z : Bool × Bool × Nat} {b : Nat × Nat} {a1 : Int32} {a2 : Int32} {a3 : Int32} {a4 : Int32} {s0 : Int32} :
  xrun k_X8_says 1 C Q [4, 11, 20, 29, 41, 57, 69, 73, 82, 96, 104, 113] K 1 82 [some (.ref 9), some (.int a1), some (.int a2), some (.int a3), some (.int a4)] [.int s0] (xS I L z) b =
  Q (some (.int s0)) (xS I L z) := rfl
set_option maxRecDepth 100000 in
theorem b_X8_says_73 {C : xC} {Q : xQ} {K : xK} {I : xI} {L : xL} {z : Bool × Bool × Nat} {b : Nat × Nat} {a1 : Int32} {a2 : Int32} {a3 : Int32} {a4 : Int32} {s0 : Int32} :
  xrun k_X8_says 1 C Q [4, 11, 20, 29, 41, 57, 69, 73, 82, 96, 104, 113] K 7 73 [some (.ref 9), some (.int a1), some (.int a2), some (.int a3), some (.int a4)] [.int s0] (xS I L z) b =
  (if s0 = 0 then C 177 [.ref 9, .int (-3 : Int32)] (xS I L z) (fun r τ => K 82 [some (.ref 9), some (.int a1), some (.int a2), some (.int a3), some (.int a4)] (r.toList ++ []) τ b) else (if a2 = 0 then C 85 [.ref 10, .int a4] (xS I L z) (fun r τ => K 96 [some (.ref 9), some (.int a1), some (.int a2), some (.int a3), some (.int a4)] (r.toList ++ []) τ b) else C 114 [.ref 37] (xS I L z) (fun r τ => K 104 [some (.ref 9), some (.int a1), some (.int a2), some (.int a3), some (.int a4)] (r.toList ++ []) τ b))) := rfl
set_option maxRecDepth 100000 in
theorem b_X8_says_96 {C : xC} {Q : xQ} {K : xK} {I : xI} {L : xL} {z : Bool × Bool × Nat} {b : Nat × Nat} {a1 : Int32} {a2 : Int32} {a3 : Int32} {a4 : Int32} {s0 : Int32} :
  xrun k_X8_says 1 C Q [4, 11, 20, 29, 41, 57, 69, 73, 82, 96, 104, 113] K 1 96 [some (.ref 9), some (.int a1), some (.int a2), some (.int a3), some (.int a4)] [.int s0] (xS I L z) b =
  Q (some (.int s0)) (xS I L z) := rfl
set_option maxRecDepth 100000 in
theorem b_X8_says_104 {C : xC} {Q : xQ} {K : xK} {I : xI} {L : xL} {z : Bool × Bool × Nat} {b : Nat × Nat} {a1 : Int32} {a2 : Int32} {a3 : Int32} {a4 : Int32} :
  xrun k_X8_says 1 C Q [4, 11, 20, 29, 41, 57, 69, 73, 82, 96, 104, 113] K 4 104 [some (.ref 9), some (.int a1), some (.int a2), some (.int a3), some (.int a4)] [] (xS I L z) b =
  C 75 [.ref 56, .int a4] (xS I L z) (fun r τ => K 113 [some (.ref 9), some (.int a1), some (.int a2), some (.int a3), some (.int a4)] (r.toList ++ []) τ b) := rfl
set_option maxRecDepth 100000 in
theorem b_X8_says_113 {C : xC} {Q : xQ} {K : xK} {I : xI} {L : xL} {z : Bool × Bool × Nat} {b : Nat × Nat} {a1 : Int32} {a2 : Int32} {a3 : Int32} {a4 : Int32} {s0 : Int32} :
  xrun k_X8_says 1 C Q [4, 11, 20, 29, 41, 57, 69, 73, 82, 96, 104, 113] K 1 113 [some (.ref 9), some (.int a1), some (.int a2), some (.int a3), some (.int a4)] [.int s0] (xS I L z) b =
  Q (some (.int s0)) (xS I L z) := rfl
set_option maxRecDepth 100000 in
theorem b_X8_cups_0 {C : xC} {Q : xQ} {K : xK} {I : xI} {L : xL} {z : Bool × Bool × Nat} {b : Nat × Nat} {a1 : Int32} :
  xrun k_X8_cups 1 C Q [17, 34] K 14 0 [some (.ref 9), some (.int a1), none] [] (xS I L z) b =
  (if a1 < 2 then C 177 [.ref 9, .int (-2 : Int32)] (xS I L z) (fun r τ => K 17 [some (.ref 9), some (.int a1), none] (r.toList ++ []) τ b) else (if 6 < a1 then C 177 [.ref 9, .int (-2 : Int32)] (xS I L z) (fun r τ => K 17 [some (.ref 9), some (.int a1), none] (r.toList ++ []) τ b) else C 87 [.ref 10, .int a1] (xS I L z) (fun r τ => K 34 [some (.ref 9), some (.int a1), some (.int (I 10 0))] (r.toList ++ []) τ b))) := rfl
set_option maxRecDepth 100000 in
theorem b_X8_cups_17 {C : xC} {Q : xQ} {K : xK} {I : xI} {L : xL} {z : Bool × Bool × Nat} {b : Nat × Nat} {a1 : Int32} {s0 : Int32} :
  xrun k_X8_cups 1 C Q [17, 34] K 1 17 [some (.ref 9), some (.int a1), none] [.int s0] (xS I L z) b =
  Q (some (.int s0)) (xS I L z) := rfl
set_option maxRecDepth 100000 in
theorem b_X8_cups_34 {C : xC} {Q : xQ} {K : xK} {I : xI} {L : xL} {z : Bool × Bool × Nat} {b : Nat × Nat} {a1 : Int32} {a2 : Int32} :
  xrun k_X8_cups 1 C Q [17, 34] K 2 34 [some (.ref 9), some (.int a1), some (.int a2)] [] (xS I L z) b =
  Q (some (.int a2)) (xS I L z) := rfl
set_option maxRecDepth 100000 in
theorem b_X8_pour_0 {C : xC} {Q : xQ} {K : xK} {I : xI} {L : xL} {z : Bool × Bool × Nat} {b : Nat × Nat} {a1 : Int32} :
  xrun k_X8_pour 1 C Q [5, 15, 27, 34] K 3 0 [some (.ref 9), some (.int a1), none] [] (xS I L z) b =
  C 179 [.ref 9, .int a1] (xS I L z) (fun r τ => K 5 [some (.ref 9), some (.int a1), none] (r.toList ++ []) τ b) := rfl
set_option maxRecDepth 100000 in
theorem b_X8_pour_5 {C : xC} {Q : xQ} {K : xK} {I : xI} {L : xL} {z : Bool × Bool × Nat} {b : Nat × Nat} {a1 : Int32} {s0 : Int32} :
  xrun k_X8_pour 1 C Q [5, 15, 27, 34] K 8 5 [some (.ref 9), some (.int a1), none] [.int s0] (xS I L z) b =
  (if s0 = 0 then C 88 [.ref 10, .ref 64] (xS I L z) (fun r τ => K 27 [some (.ref 9), some (.int a1), some (.int s0)] (r.toList ++ []) τ b) else C 177 [.ref 9, .int s0] (xS I L z) (fun r τ => K 15 [some (.ref 9), some (.int a1), some (.int s0)] (r.toList ++ []) τ b)) := rfl
set_option maxRecDepth 100000 in
theorem b_X8_pour_15 {C : xC} {Q : xQ} {K : xK} {I : xI} {L : xL} {z : Bool × Bool × Nat} {b : Nat × Nat} {a1 : Int32} {a2 : Int32} {s0 : Int32} :
  xrun k_X8_pour 1 C Q [5, 15, 27, 34] K 1 15 [some (.ref 9), some (.int a1), some (.int a2)] [.int s0] (xS I L z) b =
  Q (some (.int s0)) (xS I L z) := rfl
set_option maxRecDepth 100000 in
theorem b_X8_pour_27 {C : xC} {Q : xQ} {K : xK} {I : xI} {L : xL} {z : Bool × Bool × Nat} {b : Nat × Nat} {a1 : Int32} {a2 : Int32} :
  xrun k_X8_pour 1 C Q [5, 15, 27, 34] K 3 27 [some (.ref 9), some (.int a1), some (.int a2)] [] (xS I L z) b =
  C 114 [.ref 37] (xS I L z) (fun r τ => K 34 [some (.ref 9), some (.int a1), some (.int a2)] (r.toList ++ []) τ b) := rfl
set_option maxRecDepth 100000 in
theorem b_X8_pour_34 {C : xC} {Q : xQ} {K : xK} {I : xI} {L : xL} {z : Bool × Bool × Nat} {b : Nat × Nat} {a1 : Int32} {a2 : Int32} :
  xrun k_X8_pour 1 C Q [5, 15, 27, 34] K 4 34 [some (.ref 9), some (.int a1), some (.int a2)] [] (xS I L z) b =
  Q (some (.int (I 37 0))) (xS I L z) := rfl
set_option maxRecDepth 100000 in
theorem b_X8_sign_0 {C : xC} {Q : xQ} {K : xK} {I : xI} {L : xL} {z : Bool × Bool × Nat} {b : Nat × Nat} {a1 : Int32} {a2 : Int32} {a3 : Int32} :
  xrun k_X8_sign 1 C Q [8, 16, 25, 33, 43, 56, 67, 76] K 4 0 [some (.ref 9), some (.int a1), some (.int a2), some (.int a3), none] [] (xS I L z) b =
  C 82 [.ref 10, .int a1] (xS I L z) (fun r τ => K 8 [some (.ref 9), some (.int a1), some (.int a2), some (.int a3), none] (r.toList ++ []) τ b) := rfl
set_option maxRecDepth 100000 in
theorem b_X8_sign_8 {C : xC} {Q : xQ} {K : xK} {I : xI} {L : xL} {z : Bool × Bool × Nat} {b : Nat × Nat} {a1 : Int32} {a2 : Int32} {a3 : Int32} {s0 : Int32} :
  xrun k_X8_sign 1 C Q [8, 16, 25, 33, 43, 56, 67, 76] K 4 8 [some (.ref 9), some (.int a1), some (.int a2), some (.int a3), none] [.int s0] (xS I L z) b =
  (if s0 = 0 then C 177 [.ref 9, .int (-2 : Int32)] (xS I L z) (fun r τ => K 25 [some (.ref 9), some (.int a1), some (.int a2), some (.int a3), none] (r.toList ++ []) τ b) else C 185 [.int a2, .int a3] (xS I L z) (fun r τ => K 16 [some (.ref 9), some (.int a1), some (.int a2), some (.int a3), none] (r.toList ++ []) τ b)) := rfl
set_option maxRecDepth 100000 in
theorem b_X8_sign_16 {C : xC} {Q : xQ} {K : xK} {I : xI} {L : xL} {z : Bool × Bool × Nat} {b : Nat × Nat} {a1 : Int32} {a2 : Int32} {a3 : Int32} {s0 : Int32} :
  xrun k_X8_sign 1 C Q [8, 16, 25, 33, 43, 56, 67, 76] K 4 16 [some (.ref 9), some (.int a1), some (.int a2), some (.int a3), none] [.int s0] (xS I L z) b =
  (if s0 = 0 then C 177 [.ref 9, .int (-2 : Int32)] (xS I L z) (fun r τ => K 25 [some (.ref 9), some (.int a1), some (.int a2), some (.int a3), none] (r.toList ++ []) τ b) else C 114 [.ref 37] (xS I L z) (fun r τ => K 33 [some (.ref 9), some (.int a1), some (.int a2), some (.int a3), none] (r.toList ++ []) τ b)) := rfl
set_option maxRecDepth 100000 in
theorem b_X8_sign_25 {C : xC} {Q : xQ} {K : xK} {I : xI} {L : xL} {z : Bool × Bool × Nat} {b : Nat × Nat} {a1 : Int32} {a2 : Int32} {a3 : Int32} {s0 : Int32} :
  xrun k_X8_sign 1 C Q [8, 16, 25, 33, 43, 56, 67, 76] K 1 25 [some (.ref 9), some (.int a1), some (.int a2), some (.int a3), none] [.int s0] (xS I L z) b =
  Q (some (.int s0)) (xS I L z) := rfl
set_option maxRecDepth 100000 in
theorem b_X8_sign_33 {C : xC} {Q : xQ} {K : xK} {I : xI} {L : xL} {z : Bool × Bool × Nat} {b : Nat × Nat} {a1 : Int32} {a2 : Int32} {a3 : Int32} :
  xrun k_X8_sign 1 C Q [8, 16, 25, 33, 43, 56, 67, 76] K 6 33 [some (.ref 9), some (.int a1), some (.int a2), some (.int a3), none] [] (xS I L z) b =
  C 126 [.ref 37, .int a1, .int a2, .int a3] (xS I L z) (fun r τ => K 43 [some (.ref 9), some (.int a1), some (.int a2), some (.int a3), none] (r.toList ++ []) τ b) := rfl
set_option maxRecDepth 100000 in
theorem b_X8_sign_43 {C : xC} {Q : xQ} {K : xK} {I : xI} {L : xL} {z : Bool × Bool × Nat} {b : Nat × Nat} {a1 : Int32} {a2 : Int32} {a3 : Int32} {s0 : Int32} :
  xrun k_X8_sign 1 C Q [8, 16, 25, 33, 43, 56, 67, 76] K 9 43 [some (.ref 9), some (.int a1), some (.int a2), some (.int a3), none] [.int s0] (xS I L z) b =
  (if s0 = 0 then C 177 [.ref 9, .int (-5 : Int32)] (xS I L z) (fun r τ => K 56 [some (.ref 9), some (.int a1), some (.int a2), some (.int a3), some (.int s0)] (r.toList ++ []) τ b) else C 100 [.ref 10, .int a1, .int a2, .int a3] (xS I L z) (fun r τ => K 67 [some (.ref 9), some (.int a1), some (.int a2), some (.int a3), some (.int s0)] (r.toList ++ []) τ b)) := rfl
set_option maxRecDepth 100000 in
theorem b_X8_sign_56 {C : xC} {Q : xQ} {K : xK} {I : xI} {L : xL} {z : Bool × Bool × Nat} {b : Nat × Nat} {a1 : Int32} {a2 : Int32} {a3 : Int32} {a4 : Int32} {s0 : Int32} :
  xrun k_X8_sign 1 C Q [8, 16, 25, 33, 43, 56, 67, 76] K 1 56 [some (.ref 9), some (.int a1), some (.int a2), some (.int a3), some (.int a4)] [.int s0] (xS I L z) b =
  Q (some (.int s0)) (xS I L z) := rfl
set_option maxRecDepth 100000 in
theorem b_X8_sign_67 {C : xC} {Q : xQ} {K : xK} {I : xI} {L : xL} {z : Bool × Bool × Nat} {b : Nat × Nat} {a1 : Int32} {a2 : Int32} {a3 : Int32} {a4 : Int32} {s0 : Int32} :
  xrun k_X8_sign 1 C Q [8, 16, 25, 33, 43, 56, 67, 76] K 4 67 [some (.ref 9), some (.int a1), some (.int a2), some (.int a3), some (.int a4)] [.int s0] (xS I L z) b =
  (if s0 = 0 then C 177 [.ref 9, .int (-6 : Int32)] (xS I L z) (fun r τ => K 76 [some (.ref 9), some (.int a1), some (.int a2), some (.int a3), some (.int a4)] (r.toList ++ []) τ b) else Q (some (.int a4)) (xS I L z)) := rfl
set_option maxRecDepth 100000 in
theorem b_X8_sign_76 {C : xC} {Q : xQ} {K : xK} {I : xI} {L : xL} {z : Bool × Bool × Nat} {b : Nat × Nat} {a1 : Int32} {a2 : Int32} {a3 : Int32} {a4 : Int32} {s0 : Int32} :
  xrun k_X8_sign 1 C Q [8, 16, 25, 33, 43, 56, 67, 76] K 1 76 [some (.ref 9), some (.int a1), some (.int a2), some (.int a3), some (.int a4)] [.int s0] (xS I L z) b =
  Q (some (.int s0)) (xS I L z) := rfl
set_option maxRecDepth 100000 in
theorem b_X8_stair_0 {C : xC} {Q : xQ} {K : xK} {I : xI} {L : xL} {z : Bool × Bool × Nat} {b : Nat × Nat}  :
  xrun k_X8_stair 1 C Q [11, 18, 43, 49] K 5 0 [some (.ref 9), none] [] (xS I L z) b =
  C 81 [.ref 28, .ref 10] (xS I L z) (fun r τ => K 11 [some (.ref 9), none] (r.toList ++ []) τ b) := rfl
set_option maxRecDepth 100000 in
theorem b_X8_stair_11 {C : xC} {Q : xQ} {K : xK} {I : xI} {L : xL} {z : Bool × Bool × Nat} {b : Nat × Nat}  :
  xrun k_X8_stair 1 C Q [11, 18, 43, 49] K 3 11 [some (.ref 9), none] [] (xS I L z) b =
  C 57 [.ref 61] (xS I L z) (fun r τ => K 18 [some (.ref 9), none] (r.toList ++ []) τ b) := rfl
set_option maxRecDepth 100000 in
theorem b_X8_stair_18 {C : xC} {Q : xQ} {K : xK} {I : xI} {L : xL} {z : Bool × Bool × Nat} {b : Nat × Nat} {s0 : Int32} :
  xrun k_X8_stair 1 C Q [11, 18, 43, 49] K 13 18 [some (.ref 9), none] [.int s0] (xS I L z) b =
  (if s0 = (-1 : Int32) then C 81 [.ref 10, .ref 28] (xS (xw I 61 0 0) L z) (fun r τ => K 43 [some (.ref 9), some (.int s0)] (r.toList ++ []) τ b) else Q (some (.int s0)) (xS (xw I 61 0 0) L z)) := rfl
set_option maxRecDepth 100000 in
theorem b_X8_stair_43 {C : xC} {Q : xQ} {K : xK} {I : xI} {L : xL} {z : Bool × Bool × Nat} {b : Nat × Nat} {a1 : Int32} :
  xrun k_X8_stair 1 C Q [11, 18, 43, 49] K 3 43 [some (.ref 9), some (.int a1)] [] (xS I L z) b =
  C 177 [.ref 9, .int (-2 : Int32)] (xS I L z) (fun r τ => K 49 [some (.ref 9), some (.int a1)] (r.toList ++ []) τ b) := rfl
set_option maxRecDepth 100000 in
theorem b_X8_stair_49 {C : xC} {Q : xQ} {K : xK} {I : xI} {L : xL} {z : Bool × Bool × Nat} {b : Nat × Nat} {a1 : Int32} {s0 : Int32} :
  xrun k_X8_stair 1 C Q [11, 18, 43, 49] K 7 49 [some (.ref 9), some (.int a1)] [.int s0] (xS I L z) b =
  Q (some (.int ((-20 : Int32) - (I 61 1)))) (xS I L z) := rfl
set_option maxRecDepth 100000 in
theorem b_X8_worlds_0 {C : xC} {Q : xQ} {K : xK} {I : xI} {L : xL} {z : Bool × Bool × Nat} {b : Nat × Nat} {a1 : Int32} :
  xrun k_X8_worlds 1 C Q [4, 13, 21] K 2 0 [some (.ref 9), some (.int a1)] [] (xS I L z) b =
  C 184 [.int a1] (xS I L z) (fun r τ => K 4 [some (.ref 9), some (.int a1)] (r.toList ++ []) τ b) := rfl
set_option maxRecDepth 100000 in
theorem b_X8_worlds_4 {C : xC} {Q : xQ} {K : xK} {I : xI} {L : xL} {z : Bool × Bool × Nat} {b : Nat × Nat} {a1 : Int32} {s0 : Int32} :
  xrun k_X8_worlds 1 C Q [4, 13, 21] K 4 4 [some (.ref 9), some (.int a1)] [.int s0] (xS I L z) b =
  (if s0 = 0 then C 177 [.ref 9, .int (-2 : Int32)] (xS I L z) (fun r τ => K 13 [some (.ref 9), some (.int a1)] (r.toList ++ []) τ b) else C 114 [.ref 37] (xS I L z) (fun r τ => K 21 [some (.ref 9), some (.int a1)] (r.toList ++ []) τ b)) := rfl
set_option maxRecDepth 100000 in
theorem b_X8_worlds_13 {C : xC} {Q : xQ} {K : xK} {I : xI} {L : xL} {z : Bool × Bool × Nat} {b : Nat × Nat} {a1 : Int32} {s0 : Int32} :
  xrun k_X8_worlds 1 C Q [4, 13, 21] K 1 13 [some (.ref 9), some (.int a1)] [.int s0] (xS I L z) b =
  Q (some (.int s0)) (xS I L z) := rfl
set_option maxRecDepth 100000 in
theorem b_X8_worlds_21 {C : xC} {Q : xQ} {K : xK} {I : xI} {L : xL} {z : Bool × Bool × Nat} {b : Nat × Nat} {a1 : Int32} :
  xrun k_X8_worlds 1 C Q [4, 13, 21] K 7 21 [some (.ref 9), some (.int a1)] [] (xS I L z) b =
  (if a1 = 0 then Q (some (.int (I 37 0))) (xS I L z) else Q (some (.int (I 37 1))) (xS I L z)) := rfl
set_option maxRecDepth 100000 in
theorem b_X8_world_0 {C : xC} {Q : xQ} {K : xK} {I : xI} {L : xL} {z : Bool × Bool × Nat} {b : Nat × Nat} {a1 : Int32} {a2 : Int32} :
  xrun k_X8_world 1 C Q [12, 21, 29, 46, 55, 59] K 6 0 [some (.ref 9), some (.int a1), some (.int a2)] [] (xS I L z) b =
  (if a1 < 0 then C 177 [.ref 9, .int (-2 : Int32)] (xS I L z) (fun r τ => K 21 [some (.ref 9), some (.int a1), some (.int a2)] (r.toList ++ []) τ b) else C 82 [.ref 10, .int a2] (xS I L z) (fun r τ => K 12 [some (.ref 9), some (.int a1), some (.int a2)] (r.toList ++ []) τ b)) := rfl
set_option maxRecDepth 100000 in
theorem b_X8_world_12 {C : xC} {Q : xQ} {K : xK} {I : xI} {L : xL} {z : Bool × Bool × Nat} {b : Nat × Nat} {a1 : Int32} {a2 : Int32} {s0 : Int32} :
  xrun k_X8_world 1 C Q [12, 21, 29, 46, 55, 59] K 4 12 [some (.ref 9), some (.int a1), some (.int a2)] [.int s0] (xS I L z) b =
  (if s0 = 0 then C 177 [.ref 9, .int (-2 : Int32)] (xS I L z) (fun r τ => K 21 [some (.ref 9), some (.int a1), some (.int a2)] (r.toList ++ []) τ b) else C 114 [.ref 37] (xS I L z) (fun r τ => K 29 [some (.ref 9), some (.int a1), some (.int a2)] (r.toList ++ []) τ b)) := rfl
set_option maxRecDepth 100000 in
theorem b_X8_world_21 {C : xC} {Q : xQ} {K : xK} {I : xI} {L : xL} {z : Bool × Bool × Nat} {b : Nat × Nat} {a1 : Int32} {a2 : Int32} {s0 : Int32} :
  xrun k_X8_world 1 C Q [12, 21, 29, 46, 55, 59] K 1 21 [some (.ref 9), some (.int a1), some (.int a2)] [.int s0] (xS I L z) b =
  Q (some (.int s0)) (xS I L z) := rfl
set_option maxRecDepth 100000 in
theorem b_X8_world_29 {C : xC} {Q : xQ} {K : xK} {I : xI} {L : xL} {z : Bool × Bool × Nat} {b : Nat × Nat} {a1 : Int32} {a2 : Int32} :
  xrun k_X8_world 1 C Q [12, 21, 29, 46, 55, 59] K 9 29 [some (.ref 9), some (.int a1), some (.int a2)] [] (xS I L z) b =
  (if a1 < (I 37 1) then C 123 [.ref 37, .int a1] (xS I L z) (fun r τ => K 55 [some (.ref 9), some (.int a1), some (.int a2)] (r.toList ++ []) τ b) else C 177 [.ref 9, .int (-5 : Int32)] (xS I L z) (fun r τ => K 46 [some (.ref 9), some (.int a1), some (.int a2)] (r.toList ++ []) τ b)) := rfl
set_option maxRecDepth 100000 in
theorem b_X8_world_46 {C : xC} {Q : xQ} {K : xK} {I : xI} {L : xL} {z : Bool × Bool × Nat} {b : Nat × Nat} {a1 : Int32} {a2 : Int32} {s0 : Int32} :
  xrun k_X8_world 1 C Q [12, 21, 29, 46, 55, 59] K 1 46 [some (.ref 9), some (.int a1), some (.int a2)] [.int s0] (xS I L z) b =
  Q (some (.int s0)) (xS I L z) := rfl
set_option maxRecDepth 100000 in
theorem b_X8_world_55 {C : xC} {Q : xQ} {K : xK} {I : xI} {L : xL} {z : Bool × Bool × Nat} {b : Nat × Nat} {a1 : Int32} {a2 : Int32} {s0 : Int32} :
  xrun k_X8_world 1 C Q [12, 21, 29, 46, 55, 59] K 2 55 [some (.ref 9), some (.int a1), some (.int a2)] [.int s0] (xS I L z) b =
  C 111 [.int s0, .int a2] (xS I L z) (fun r τ => K 59 [some (.ref 9), some (.int a1), some (.int a2)] (r.toList ++ []) τ b) := rfl
set_option maxRecDepth 100000 in
theorem b_X8_world_59 {C : xC} {Q : xQ} {K : xK} {I : xI} {L : xL} {z : Bool × Bool × Nat} {b : Nat × Nat} {a1 : Int32} {a2 : Int32} {s0 : Int32} :
  xrun k_X8_world 1 C Q [12, 21, 29, 46, 55, 59] K 1 59 [some (.ref 9), some (.int a1), some (.int a2)] [.int s0] (xS I L z) b =
  Q (some (.int s0)) (xS I L z) := rfl
set_option maxRecDepth 100000 in
theorem b_X8_sorts_0 {C : xC} {Q : xQ} {K : xK} {I : xI} {L : xL} {z : Bool × Bool × Nat} {b : Nat × Nat} {a1 : Int32} :
  xrun k_X8_sorts 1 C Q [8, 17, 25, 33] K 4 0 [some (.ref 9), some (.int a1)] [] (xS I L z) b =
  C 82 [.ref 10, .int a1] (xS I L z) (fun r τ => K 8 [some (.ref 9), some (.int a1)] (r.toList ++ []) τ b) := rfl
set_option maxRecDepth 100000 in
theorem b_X8_sorts_8 {C : xC} {Q : xQ} {K : xK} {I : xI} {L : xL} {z : Bool × Bool × Nat} {b : Nat × Nat} {a1 : Int32} {s0 : Int32} :
  xrun k_X8_sorts 1 C Q [8, 17, 25, 33] K 4 8 [some (.ref 9), some (.int a1)] [.int s0] (xS I L z) b =
  (if s0 = 0 then C 177 [.ref 9, .int (-2 : Int32)] (xS I L z) (fun r τ => K 17 [some (.ref 9), some (.int a1)] (r.toList ++ []) τ b) else C 114 [.ref 37] (xS I L z) (fun r τ => K 25 [some (.ref 9), some (.int a1)] (r.toList ++ []) τ b)) := rfl
set_option maxRecDepth 100000 in
theorem b_X8_sorts_17 {C : xC} {Q : xQ} {K : xK} {I : xI} {L : xL} {z : Bool × Bool × Nat} {b : Nat × Nat} {a1 : Int32} {s0 : Int32} :
  xrun k_X8_sorts 1 C Q [8, 17, 25, 33] K 1 17 [some (.ref 9), some (.int a1)] [.int s0] (xS I L z) b =
  Q (some (.int s0)) (xS I L z) := rfl
set_option maxRecDepth 100000 in
theorem b_X8_sorts_25 {C : xC} {Q : xQ} {K : xK} {I : xI} {L : xL} {z : Bool × Bool × Nat} {b : Nat × Nat} {a1 : Int32} :
  xrun k_X8_sorts 1 C Q [8, 17, 25, 33] K 4 25 [some (.ref 9), some (.int a1)] [] (xS I L z) b =
  C 127 [.ref 37, .int a1] (xS I L z) (fun r τ => K 33 [some (.ref 9), some (.int a1)] (r.toList ++ []) τ b) := rfl
set_option maxRecDepth 100000 in
theorem b_X8_sorts_33 {C : xC} {Q : xQ} {K : xK} {I : xI} {L : xL} {z : Bool × Bool × Nat} {b : Nat × Nat} {a1 : Int32} {s0 : Int32} :
  xrun k_X8_sorts 1 C Q [8, 17, 25, 33] K 1 33 [some (.ref 9), some (.int a1)] [.int s0] (xS I L z) b =
  Q (some (.int s0)) (xS I L z) := rfl
set_option maxRecDepth 100000 in
theorem b_X8_likely_0 {C : xC} {Q : xQ} {K : xK} {I : xI} {L : xL} {z : Bool × Bool × Nat} {b : Nat × Nat} {a1 : Int32} {a2 : Int32} :
  xrun k_X8_likely 1 C Q [8, 15, 24, 32, 48, 57, 78] K 4 0 [some (.ref 9), some (.int a1), some (.int a2), none] [] (xS I L z) b =
  C 82 [.ref 10, .int a1] (xS I L z) (fun r τ => K 8 [some (.ref 9), some (.int a1), some (.int a2), none] (r.toList ++ []) τ b) := rfl
set_option maxRecDepth 100000 in
theorem b_X8_likely_8 {C : xC} {Q : xQ} {K : xK} {I : xI} {L : xL} {z : Bool × Bool × Nat} {b : Nat × Nat} {a1 : Int32} {a2 : Int32} {s0 : Int32} :
  xrun k_X8_likely 1 C Q [8, 15, 24, 32, 48, 57, 78] K 4 8 [some (.ref 9), some (.int a1), some (.int a2), none] [.int s0] (xS I L z) b =
  (if s0 = 0 then C 177 [.ref 9, .int (-2 : Int32)] (xS I L z) (fun r τ => K 24 [some (.ref 9), some (.int a1), some (.int a2), none] (r.toList ++ []) τ b) else C 184 [.int a2] (xS I L z) (fun r τ => K 15 [some (.ref 9), some (.int a1), some (.int a2), none] (r.toList ++ []) τ b)) := rfl
set_option maxRecDepth 100000 in
theorem b_X8_likely_15 {C : xC} {Q : xQ} {K : xK} {I : xI} {L : xL} {z : Bool × Bool × Nat} {b : Nat × Nat} {a1 : Int32} {a2 : Int32} {s0 : Int32} :
  xrun k_X8_likely 1 C Q [8, 15, 24, 32, 48, 57, 78] K 4 15 [some (.ref 9), some (.int a1), some (.int a2), none] [.int s0] (xS I L z) b =
  (if s0 = 0 then C 177 [.ref 9, .int (-2 : Int32)] (xS I L z) (fun r τ => K 24 [some (.ref 9), some (.int a1), some (.int a2), none] (r.toList ++ []) τ b) else C 114 [.ref 37] (xS I L z) (fun r τ => K 32 [some (.ref 9), some (.int a1), some (.int a2), none] (r.toList ++ []) τ b)) := rfl
set_option maxRecDepth 100000 in
theorem b_X8_likely_24 {C : xC} {Q : xQ} {K : xK} {I : xI} {L : xL} {z : Bool × Bool × Nat} {b : Nat × Nat} {a1 : Int32} {a2 : Int32} {s0 : Int32} :
  xrun k_X8_likely 1 C Q [8, 15, 24, 32, 48, 57, 78] K 1 24 [some (.ref 9), some (.int a1), some (.int a2), none] [.int s0] (xS I L z) b =
  Q (some (.int s0)) (xS I L z) := rfl
set_option maxRecDepth 100000 in
theorem b_X8_likely_32 {C : xC} {Q : xQ} {K : xK} {I : xI} {L : xL} {z : Bool × Bool × Nat} {b : Nat × Nat} {a1 : Int32} {a2 : Int32} :
  xrun k_X8_likely 1 C Q [8, 15, 24, 32, 48, 57, 78] K 8 32 [some (.ref 9), some (.int a1), some (.int a2), none] [] (xS I L z) b =
  (if 0 < (I 37 1) then C 128 [.ref 37, .int a1] (xS I L z) (fun r τ => K 57 [some (.ref 9), some (.int a1), some (.int a2), none] (r.toList ++ []) τ b) else C 177 [.ref 9, .int (-5 : Int32)] (xS I L z) (fun r τ => K 48 [some (.ref 9), some (.int a1), some (.int a2), none] (r.toList ++ []) τ b)) := rfl
set_option maxRecDepth 100000 in
theorem b_X8_likely_48 {C : xC} {Q : xQ} {K : xK} {I : xI} {L : xL} {z : Bool × Bool × Nat} {b : Nat × Nat} {a1 : Int32} {a2 : Int32} {s0 : Int32} :
  xrun k_X8_likely 1 C Q [8, 15, 24, 32, 48, 57, 78] K 1 48 [some (.ref 9), some (.int a1), some (.int a2), none] [.int s0] (xS I L z) b =
  Q (some (.int s0)) (xS I L z) := rfl
set_option maxRecDepth 100000 in
theorem b_X8_likely_57 {C : xC} {Q : xQ} {K : xK} {I : xI} {L : xL} {z : Bool × Bool × Nat} {b : Nat × Nat} {a1 : Int32} {a2 : Int32} {s0 : Int32} :
  xrun k_X8_likely 1 C Q [8, 15, 24, 32, 48, 57, 78] K 9 57 [some (.ref 9), some (.int a1), some (.int a2), none] [.int s0] (xS I L z) b =
  (if a2 = 0 then Q (some (.int s0)) (xS I L z) else C 125 [.ref 37, .int a1, .int s0] (xS I L z) (fun r τ => K 78 [some (.ref 9), some (.int a1), some (.int a2), some (.int s0)] (r.toList ++ [.int 1000]) τ b)) := rfl
set_option maxRecDepth 100000 in
theorem b_X8_likely_78 {C : xC} {Q : xQ} {K : xK} {I : xI} {L : xL} {z : Bool × Bool × Nat} {b : Nat × Nat} {a1 : Int32} {a2 : Int32} {a3 : Int32} {s1 : Int32} {s0 : Int32} :
  xrun k_X8_likely 1 C Q [8, 15, 24, 32, 48, 57, 78] K 6 78 [some (.ref 9), some (.int a1), some (.int a2), some (.int a3)] [.int s0, .int s1] (xS I L z) b =
  (if (I 37 1) = 0 then False else Q (some (.int ((s1 * s0) / (I 37 1)))) (xS I L z)) := rfl
set_option maxRecDepth 100000 in
theorem b_X8_known_0 {C : xC} {Q : xQ} {K : xK} {I : xI} {L : xL} {z : Bool × Bool × Nat} {b : Nat × Nat}  :
  xrun k_X8_known 1 C Q [7, 14] K 3 0 [some (.ref 9)] [] (xS I L z) b =
  C 114 [.ref 37] (xS I L z) (fun r τ => K 7 [some (.ref 9)] (r.toList ++ []) τ b) := rfl
set_option maxRecDepth 100000 in
theorem b_X8_known_7 {C : xC} {Q : xQ} {K : xK} {I : xI} {L : xL} {z : Bool × Bool × Nat} {b : Nat × Nat}  :
  xrun k_X8_known 1 C Q [7, 14] K 3 7 [some (.ref 9)] [] (xS I L z) b =
  C 130 [.ref 37] (xS I L z) (fun r τ => K 14 [some (.ref 9)] (r.toList ++ []) τ b) := rfl
set_option maxRecDepth 100000 in
theorem b_X8_known_14 {C : xC} {Q : xQ} {K : xK} {I : xI} {L : xL} {z : Bool × Bool × Nat} {b : Nat × Nat} {s0 : Int32} :
  xrun k_X8_known 1 C Q [7, 14] K 1 14 [some (.ref 9)] [.int s0] (xS I L z) b =
  Q (some (.int s0)) (xS I L z) := rfl
set_option maxRecDepth 100000 in
theorem b_X8_split_0 {C : xC} {Q : xQ} {K : xK} {I : xI} {L : xL} {z : Bool × Bool × Nat} {b : Nat × Nat} {a1 : Int32} {a2 : Int32} {a3 : Int32} :
  xrun k_X8_split 1 C Q [8, 15, 22, 31, 39, 52, 64] K 4 0 [some (.ref 9), some (.int a1), some (.int a2), some (.int a3)] [] (xS I L z) b =
  C 82 [.ref 10, .int a1] (xS I L z) (fun r τ => K 8 [some (.ref 9), some (.int a1), some (.int a2), some (.int a3)] (r.toList ++ []) τ b) := rfl
set_option maxRecDepth 100000 in
theorem b_X8_split_8 {C : xC} {Q : xQ} {K : xK} {I : xI} {L : xL} {z : Bool × Bool × Nat} {b : Nat × Nat} {a1 : Int32} {a2 : Int32} {a3 : Int32} {s0 : Int32} :
  xrun k_X8_split 1 C Q [8, 15, 22, 31, 39, 52, 64] K 4 8 [some (.ref 9), some (.int a1), some (.int a2), some (.int a3)] [.int s0] (xS I L z) b =
  (if s0 = 0 then C 177 [.ref 9, .int (-2 : Int32)] (xS I L z) (fun r τ => K 31 [some (.ref 9), some (.int a1), some (.int a2), some (.int a3)] (r.toList ++ []) τ b) else C 183 [.int a2] (xS I L z) (fun r τ => K 15 [some (.ref 9), some (.int a1), some (.int a2), some (.int a3)] (r.toList ++ []) τ b)) := rfl
set_option maxRecDepth 100000 in
theorem b_X8_split_15 {C : xC} {Q : xQ} {K : xK} {I : xI} {L : xL} {z : Bool × Bool × Nat} {b : Nat × Nat} {a1 : Int32} {a2 : Int32} {a3 : Int32} {s0 : Int32} :
  xrun k_X8_split 1 C Q [8, 15, 22, 31, 39, 52, 64] K 4 15 [some (.ref 9), some (.int a1), some (.int a2), some (.int a3)] [.int s0] (xS I L z) b =
  (if s0 = 0 then C 177 [.ref 9, .int (-2 : Int32)] (xS I L z) (fun r τ => K 31 [some (.ref 9), some (.int a1), some (.int a2), some (.int a3)] (r.toList ++ []) τ b) else C 184 [.int a3] (xS I L z) (fun r τ => K 22 [some (.ref 9), some (.int a1), some (.int a2), some (.int a3)] (r.toList ++ []) τ b)) := rfl
set_option maxRecDepth 100000 in
theorem b_X8_split_31 {C : xC} {Q : xQ} {K : xK} {I : xI} {L : xL} {z : Bool × Bool × Nat} {b : Nat × Nat} {a1 : Int32} {a2 : Int32} {a3 : Int32} {s0 : Int32} :
  xrun k_X8_split 1 C Q [8, 15, 22, 31, 39, 52, 64] K 1 31 [some (.ref 9), some (.int a1), some (.int a2), some (.int a3)] [.int s0] (xS I L z) b =
  Q (some (.int s0)) (xS I L z) := rfl
set_option maxRecDepth 100000 in
theorem b_X8_split_22 {C : xC} {Q : xQ} {K : xK} {I : xI} {L : xL} {z : Bool × Bool × Nat} {b : Nat × Nat} {a1 : Int32} {a2 : Int32} {a3 : Int32} {s0 : Int32} :
  xrun k_X8_split 1 C Q [8, 15, 22, 31, 39, 52, 64] K 4 22 [some (.ref 9), some (.int a1), some (.int a2), some (.int a3)] [.int s0] (xS I L z) b =
  (if s0 = 0 then C 177 [.ref 9, .int (-2 : Int32)] (xS I L z) (fun r τ => K 31 [some (.ref 9), some (.int a1), some (.int a2), some (.int a3)] (r.toList ++ []) τ b) else C 114 [.ref 37] (xS I L z) (fun r τ => K 39 [some (.ref 9), some (.int a1), some (.int a2), some (.int a3)] (r.toList ++ []) τ b)) := rfl
set_option maxRecDepth 100000 in
theorem b_X8_split_39 {C : xC} {Q : xQ} {K : xK} {I : xI} {L : xL} {z : Bool × Bool × Nat} {b : Nat × Nat} {a1 : Int32} {a2 : Int32} {a3 : Int32} :
  xrun k_X8_split 1 C Q [8, 15, 22, 31, 39, 52, 64] K 7 39 [some (.ref 9), some (.int a1), some (.int a2), some (.int a3)] [] (xS I L z) b =
  (if a3 = 0 then C 18 [.ref 43, .int a1, .int a2] (xS I L z) (fun r τ => K 52 [some (.ref 9), some (.int a1), some (.int a2), some (.int a3)] (r.toList ++ []) τ b) else C 19 [.ref 43, .int a1, .int a2] (xS I L z) (fun r τ => K 64 [some (.ref 9), some (.int a1), some (.int a2), some (.int a3)] (r.toList ++ []) τ b)) := rfl
set_option maxRecDepth 100000 in
theorem b_X8_split_52 {C : xC} {Q : xQ} {K : xK} {I : xI} {L : xL} {z : Bool × Bool × Nat} {b : Nat × Nat} {a1 : Int32} {a2 : Int32} {a3 : Int32} {s0 : Int32} :
  xrun k_X8_split 1 C Q [8, 15, 22, 31, 39, 52, 64] K 1 52 [some (.ref 9), some (.int a1), some (.int a2), some (.int a3)] [.int s0] (xS I L z) b =
  K 64 [some (.ref 9), some (.int a1), some (.int a2), some (.int a3)] [.int s0] (xS I L z) b := rfl
set_option maxRecDepth 100000 in
theorem b_X8_split_64 {C : xC} {Q : xQ} {K : xK} {I : xI} {L : xL} {z : Bool × Bool × Nat} {b : Nat × Nat} {a1 : Int32} {a2 : Int32} {a3 : Int32} {s0 : Int32} :
  xrun k_X8_split 1 C Q [8, 15, 22, 31, 39, 52, 64] K 1 64 [some (.ref 9), some (.int a1), some (.int a2), some (.int a3)] [.int s0] (xS I L z) b =
  Q (some (.int s0)) (xS I L z) := rfl
