/-! trays and references taken over: printed -/
set_option maxRecDepth 100000 in
theorem b_X6_takeAllOf_19_10_0 {C : xC} {Q : xQ} {K : xK} {I : xI} {L : xL} {z : Bool × Bool × Nat} {b : Nat × Nat}  :
  xrun k_X6_takeAllOf 0 C Q [55, 70, 85, 100, 115, 130, 144, 158] K 28 0 [some (.ref 19), some (.ref 10)] [] (xS I L z) b =
  K 55 [some (.ref 19), some (.ref 10)] [] (xS (xcpy (xw (xw (xw (xw (xw I 19 0 (I 10 0)) 19 1 ((xw I 19 0 (I 10 0)) 10 1)) 19 2 ((xw (xw I 19 0 (I 10 0)) 19 1 ((xw I 19 0 (I 10 0)) 10 1)) 10 2)) 19 3 ((xw (xw (xw I 19 0 (I 10 0)) 19 1 ((xw I 19 0 (I 10 0)) 10 1)) 19 2 ((xw (xw I 19 0 (I 10 0)) 19 1 ((xw I 19 0 (I 10 0)) 10 1)) 10 2)) 10 3)) 19 4 ((xw (xw (xw (xw I 19 0 (I 10 0)) 19 1 ((xw I 19 0 (I 10 0)) 10 1)) 19 2 ((xw (xw I 19 0 (I 10 0)) 19 1 ((xw I 19 0 (I 10 0)) 10 1)) 10 2)) 19 3 ((xw (xw (xw I 19 0 (I 10 0)) 19 1 ((xw I 19 0 (I 10 0)) 10 1)) 19 2 ((xw (xw I 19 0 (I 10 0)) 19 1 ((xw I 19 0 (I 10 0)) 10 1)) 10 2)) 10 3)) 10 4)) (11) (Int32.toNatClampNeg 0) (20) (Int32.toNatClampNeg 0) (Int32.toNatClampNeg 6)) L z) b := rfl
set_option maxRecDepth 100000 in
theorem b_X6_takeAllOf_19_10_55 {C : xC} {Q : xQ} {K : xK} {I : xI} {L : xL} {z : Bool × Bool × Nat} {b : Nat × Nat}  :
  xrun k_X6_takeAllOf 0 C Q [55, 70, 85, 100, 115, 130, 144, 158] K 8 55 [some (.ref 19), some (.ref 10)] [] (xS I L z) b =
  K 70 [some (.ref 19), some (.ref 10)] [] (xS (xcpy I (12) (Int32.toNatClampNeg 0) (21) (Int32.toNatClampNeg 0) (Int32.toNatClampNeg 6)) L z) b := rfl
set_option maxRecDepth 100000 in
theorem b_X6_takeAllOf_19_10_70 {C : xC} {Q : xQ} {K : xK} {I : xI} {L : xL} {z : Bool × Bool × Nat} {b : Nat × Nat}  :
  xrun k_X6_takeAllOf 0 C Q [55, 70, 85, 100, 115, 130, 144, 158] K 8 70 [some (.ref 19), some (.ref 10)] [] (xS I L z) b =
  K 85 [some (.ref 19), some (.ref 10)] [] (xS (xcpy I (13) (Int32.toNatClampNeg 0) (22) (Int32.toNatClampNeg 0) (Int32.toNatClampNeg 18)) L z) b := rfl
set_option maxRecDepth 100000 in
theorem b_X6_takeAllOf_19_10_85 {C : xC} {Q : xQ} {K : xK} {I : xI} {L : xL} {z : Bool × Bool × Nat} {b : Nat × Nat}  :
  xrun k_X6_takeAllOf 0 C Q [55, 70, 85, 100, 115, 130, 144, 158] K 8 85 [some (.ref 19), some (.ref 10)] [] (xS I L z) b =
  K 100 [some (.ref 19), some (.ref 10)] [] (xS (xcpy I (14) (Int32.toNatClampNeg 0) (23) (Int32.toNatClampNeg 0) (Int32.toNatClampNeg 6)) L z) b := rfl
set_option maxRecDepth 100000 in
theorem b_X6_takeAllOf_19_10_100 {C : xC} {Q : xQ} {K : xK} {I : xI} {L : xL} {z : Bool × Bool × Nat} {b : Nat × Nat}  :
  xrun k_X6_takeAllOf 0 C Q [55, 70, 85, 100, 115, 130, 144, 158] K 8 100 [some (.ref 19), some (.ref 10)] [] (xS I L z) b =
  K 115 [some (.ref 19), some (.ref 10)] [] (xS (xcpy I (15) (Int32.toNatClampNeg 0) (24) (Int32.toNatClampNeg 0) (Int32.toNatClampNeg 6)) L z) b := rfl
set_option maxRecDepth 100000 in
theorem b_X6_takeAllOf_19_10_115 {C : xC} {Q : xQ} {K : xK} {I : xI} {L : xL} {z : Bool × Bool × Nat} {b : Nat × Nat}  :
  xrun k_X6_takeAllOf 0 C Q [55, 70, 85, 100, 115, 130, 144, 158] K 8 115 [some (.ref 19), some (.ref 10)] [] (xS I L z) b =
  K 130 [some (.ref 19), some (.ref 10)] [] (xS (xcpy I (16) (Int32.toNatClampNeg 0) (25) (Int32.toNatClampNeg 0) (Int32.toNatClampNeg 24)) L z) b := rfl
set_option maxRecDepth 100000 in
theorem b_X6_takeAllOf_19_10_130 {C : xC} {Q : xQ} {K : xK} {I : xI} {L : xL} {z : Bool × Bool × Nat} {b : Nat × Nat}  :
  xrun k_X6_takeAllOf 0 C Q [55, 70, 85, 100, 115, 130, 144, 158] K 8 130 [some (.ref 19), some (.ref 10)] [] (xS I L z) b =
  K 144 [some (.ref 19), some (.ref 10)] [] (xS (xcpy I (17) (Int32.toNatClampNeg 0) (26) (Int32.toNatClampNeg 0) (Int32.toNatClampNeg 4)) L z) b := rfl
set_option maxRecDepth 100000 in
theorem b_X6_takeAllOf_19_10_144 {C : xC} {Q : xQ} {K : xK} {I : xI} {L : xL} {z : Bool × Bool × Nat} {b : Nat × Nat}  :
  xrun k_X6_takeAllOf 0 C Q [55, 70, 85, 100, 115, 130, 144, 158] K 8 144 [some (.ref 19), some (.ref 10)] [] (xS I L z) b =
  K 158 [some (.ref 19), some (.ref 10)] [] (xS (xcpy I (18) (Int32.toNatClampNeg 0) (27) (Int32.toNatClampNeg 0) (Int32.toNatClampNeg 4)) L z) b := rfl
set_option maxRecDepth 100000 in
theorem b_X6_takeAllOf_19_10_158 {C : xC} {Q : xQ} {K : xK} {I : xI} {L : xL} {z : Bool × Bool × Nat} {b : Nat × Nat}  :
  xrun k_X6_takeAllOf 0 C Q [55, 70, 85, 100, 115, 130, 144, 158] K 4 158 [some (.ref 19), some (.ref 10)] [] (xS I L z) b =
  Q none (xS (xw I 19 5 1) L z) := rfl
set_option maxRecDepth 100000 in
theorem b_X6_takeAllOf_28_10_0 {C : xC} {Q : xQ} {K : xK} {I : xI} {L : xL} {z : Bool × Bool × Nat} {b : Nat × Nat}  :
  xrun k_X6_takeAllOf 0 C Q [55, 70, 85, 100, 115, 130, 144, 158] K 28 0 [some (.ref 28), some (.ref 10)] [] (xS I L z) b =
  K 55 [some (.ref 28), some (.ref 10)] [] (xS (xcpy (xw (xw (xw (xw (xw I 28 0 (I 10 0)) 28 1 ((xw I 28 0 (I 10 0)) 10 1)) 28 2 ((xw (xw I 28 0 (I 10 0)) 28 1 ((xw I 28 0 (I 10 0)) 10 1)) 10 2)) 28 3 ((xw (xw (xw I 28 0 (I 10 0)) 28 1 ((xw I 28 0 (I 10 0)) 10 1)) 28 2 ((xw (xw I 28 0 (I 10 0)) 28 1 ((xw I 28 0 (I 10 0)) 10 1)) 10 2)) 10 3)) 28 4 ((xw (xw (xw (xw I 28 0 (I 10 0)) 28 1 ((xw I 28 0 (I 10 0)) 10 1)) 28 2 ((xw (xw I 28 0 (I 10 0)) 28 1 ((xw I 28 0 (I 10 0)) 10 1)) 10 2)) 28 3 ((xw (xw (xw I 28 0 (I 10 0)) 28 1 ((xw I 28 0 (I 10 0)) 10 1)) 28 2 ((xw (xw I 28 0 (I 10 0)) 28 1 ((xw I 28 0 (I 10 0)) 10 1)) 10 2)) 10 3)) 10 4)) (11) (Int32.toNatClampNeg 0) (29) (Int32.toNatClampNeg 0) (Int32.toNatClampNeg 6)) L z) b := rfl
set_option maxRecDepth 100000 in
theorem b_X6_takeAllOf_28_10_55 {C : xC} {Q : xQ} {K : xK} {I : xI} {L : xL} {z : Bool × Bool × Nat} {b : Nat × Nat}  :
  xrun k_X6_takeAllOf 0 C Q [55, 70, 85, 100, 115, 130, 144, 158] K 8 55 [some (.ref 28), some (.ref 10)] [] (xS I L z) b =
  K 70 [some (.ref 28), some (.ref 10)] [] (xS (xcpy I (12) (Int32.toNatClampNeg 0) (30) (Int32.toNatClampNeg 0) (Int32.toNatClampNeg 6)) L z) b := rfl
set_option maxRecDepth 100000 in
theorem b_X6_takeAllOf_28_10_70 {C : xC} {Q : xQ} {K : xK} {I : xI} {L : xL} {z : Bool × Bool × Nat} {b : Nat × Nat}  :
  xrun k_X6_takeAllOf 0 C Q [55, 70, 85, 100, 115, 130, 144, 158] K 8 70 [some (.ref 28), some (.ref 10)] [] (xS I L z) b =
  K 85 [some (.ref 28), some (.ref 10)] [] (xS (xcpy I (13) (Int32.toNatClampNeg 0) (31) (Int32.toNatClampNeg 0) (Int32.toNatClampNeg 18)) L z) b := rfl
set_option maxRecDepth 100000 in
theorem b_X6_takeAllOf_28_10_85 {C : xC} {Q : xQ} {K : xK} {I : xI} {L : xL} {z : Bool × Bool × Nat} {b : Nat × Nat}  :
  xrun k_X6_takeAllOf 0 C Q [55, 70, 85, 100, 115, 130, 144, 158] K 8 85 [some (.ref 28), some (.ref 10)] [] (xS I L z) b =
  K 100 [some (.ref 28), some (.ref 10)] [] (xS (xcpy I (14) (Int32.toNatClampNeg 0) (32) (Int32.toNatClampNeg 0) (Int32.toNatClampNeg 6)) L z) b := rfl
set_option maxRecDepth 100000 in
theorem b_X6_takeAllOf_28_10_100 {C : xC} {Q : xQ} {K : xK} {I : xI} {L : xL} {z : Bool × Bool × Nat} {b : Nat × Nat}  :
  xrun k_X6_takeAllOf 0 C Q [55, 70, 85, 100, 115, 130, 144, 158] K 8 100 [some (.ref 28), some (.ref 10)] [] (xS I L z) b =
  K 115 [some (.ref 28), some (.ref 10)] [] (xS (xcpy I (15) (Int32.toNatClampNeg 0) (33) (Int32.toNatClampNeg 0) (Int32.toNatClampNeg 6)) L z) b := rfl
set_option maxRecDepth 100000 in
theorem b_X6_takeAllOf_28_10_115 {C : xC} {Q : xQ} {K : xK} {I : xI} {L : xL} {z : Bool × Bool × Nat} {b : Nat × Nat}  :
  xrun k_X6_takeAllOf 0 C Q [55, 70, 85, 100, 115, 130, 144, 158] K 8 115 [some (.ref 28), some (.ref 10)] [] (xS I L z) b =
  K 130 [some (.ref 28), some (.ref 10)] [] (xS (xcpy I (16) (Int32.toNatClampNeg 0) (34) (Int32.toNatClampNeg 0) (Int32.toNatClampNeg 24)) L z) b := rfl
set_option maxRecDepth 100000 in
theorem b_X6_takeAllOf_28_10_130 {C : xC} {Q : xQ} {K : xK} {I : xI} {L : xL} {z : Bool × Bool × Nat} {b : Nat × Nat}  :
  xrun k_X6_takeAllOf 0 C Q [55, 70, 85, 100, 115, 130, 144, 158] K 8 130 [some (.ref 28), some (.ref 10)] [] (xS I L z) b =
  K 144 [some (.ref 28), some (.ref 10)] [] (xS (xcpy I (17) (Int32.toNatClampNeg 0) (35) (Int32.toNatClampNeg 0) (Int32.toNatClampNeg 4)) L z) b := rfl
set_option maxRecDepth 100000 in
theorem b_X6_takeAllOf_28_10_144 {C : xC} {Q : xQ} {K : xK} {I : xI} {L : xL} {z : Bool × Bool × Nat} {b : Nat × Nat}  :
  xrun k_X6_takeAllOf 0 C Q [55, 70, 85, 100, 115, 130, 144, 158] K 8 144 [some (.ref 28), some (.ref 10)] [] (xS I L z) b =
  K 158 [some (.ref 28), some (.ref 10)] [] (xS (xcpy I (18) (Int32.toNatClampNeg 0) (36) (Int32.toNatClampNeg 0) (Int32.toNatClampNeg 4)) L z) b := rfl
set_option maxRecDepth 100000 in
theorem b_X6_takeAllOf_28_10_158 {C : xC} {Q : xQ} {K : xK} {I : xI} {L : xL} {z : Bool × Bool × Nat} {b : Nat × Nat}  :
  xrun k_X6_takeAllOf 0 C Q [55, 70, 85, 100, 115, 130, 144, 158] K 4 158 [some (.ref 28), some (.ref 10)] [] (xS I L z) b =
  Q none (xS (xw I 28 5 1) L z) := rfl
set_option maxRecDepth 100000 in
theorem b_X6_takeAllOf_10_28_0 {C : xC} {Q : xQ} {K : xK} {I : xI} {L : xL} {z : Bool × Bool × Nat} {b : Nat × Nat}  :
  xrun k_X6_takeAllOf 0 C Q [55, 70, 85, 100, 115, 130, 144, 158] K 28 0 [some (.ref 10), some (.ref 28)] [] (xS I L z) b =
  K 55 [some (.ref 10), some (.ref 28)] [] (xS (xcpy (xw (xw (xw (xw (xw I 10 0 (I 28 0)) 10 1 ((xw I 10 0 (I 28 0)) 28 1)) 10 2 ((xw (xw I 10 0 (I 28 0)) 10 1 ((xw I 10 0 (I 28 0)) 28 1)) 28 2)) 10 3 ((xw (xw (xw I 10 0 (I 28 0)) 10 1 ((xw I 10 0 (I 28 0)) 28 1)) 10 2 ((xw (xw I 10 0 (I 28 0)) 10 1 ((xw I 10 0 (I 28 0)) 28 1)) 28 2)) 28 3)) 10 4 ((xw (xw (xw (xw I 10 0 (I 28 0)) 10 1 ((xw I 10 0 (I 28 0)) 28 1)) 10 2 ((xw (xw I 10 0 (I 28 0)) 10 1 ((xw I 10 0 (I 28 0)) 28 1)) 28 2)) 10 3 ((xw (xw (xw I 10 0 (I 28 0)) 10 1 ((xw I 10 0 (I 28 0)) 28 1)) 10 2 ((xw (xw I 10 0 (I 28 0)) 10 1 ((xw I 10 0 (I 28 0)) 28 1)) 28 2)) 28 3)) 28 4)) (29) (Int32.toNatClampNeg 0) (11) (Int32.toNatClampNeg 0) (Int32.toNatClampNeg 6)) L z) b := rfl
set_option maxRecDepth 100000 in
theorem b_X6_takeAllOf_10_28_55 {C : xC} {Q : xQ} {K : xK} {I : xI} {L : xL} {z : Bool × Bool × Nat} {b : Nat × Nat}  :
  xrun k_X6_takeAllOf 0 C Q [55, 70, 85, 100, 115, 130, 144, 158] K 8 55 [some (.ref 10), some (.ref 28)] [] (xS I L z) b =
  K 70 [some (.ref 10), some (.ref 28)] [] (xS (xcpy I (30) (Int32.toNatClampNeg 0) (12) (Int32.toNatClampNeg 0) (Int32.toNatClampNeg 6)) L z) b := rfl
set_option maxRecDepth 100000 in
theorem b_X6_takeAllOf_10_28_70 {C : xC} {Q : xQ} {K : xK} {I : xI} {L : xL} {z : Bool × Bool × Nat} {b : Nat × Nat}  :
  xrun k_X6_takeAllOf 0 C Q [55, 70, 85, 100, 115, 130, 144, 158] K 8 70 [some (.ref 10), some (.ref 28)] [] (xS I L z) b =
  K 85 [some (.ref 10), some (.ref 28)] [] (xS (xcpy I (31) (Int32.toNatClampNeg 0) (13) (Int32.toNatClampNeg 0) (Int32.toNatClampNeg 18)) L z) b := rfl
set_option maxRecDepth 100000 in
theorem b_X6_takeAllOf_10_28_85 {C : xC} {Q : xQ} {K : xK} {I : xI} {L : xL} {z : Bool × Bool × Nat} {b : Nat × Nat}  :
  xrun k_X6_takeAllOf 0 C Q [55, 70, 85, 100, 115, 130, 144, 158] K 8 85 [some (.ref 10), some (.ref 28)] [] (xS I L z) b =
  K 100 [some (.ref 10), some (.ref 28)] [] (xS (xcpy I (32) (Int32.toNatClampNeg 0) (14) (Int32.toNatClampNeg 0) (Int32.toNatClampNeg 6)) L z) b := rfl
set_option maxRecDepth 100000 in
theorem b_X6_takeAllOf_10_28_100 {C : xC} {Q : xQ} {K : xK} {I : xI} {L : xL} {z : Bool × Bool × Nat} {b : Nat × Nat}  :
  xrun k_X6_takeAllOf 0 C Q [55, 70, 85, 100, 115, 130, 144, 158] K 8 100 [some (.ref 10), some (.ref 28)] [] (xS I L z) b =
  K 115 [some (.ref 10), some (.ref 28)] [] (xS (xcpy I (33) (Int32.toNatClampNeg 0) (15) (Int32.toNatClampNeg 0) (Int32.toNatClampNeg 6)) L z) b := rfl
set_option maxRecDepth 100000 in
theorem b_X6_takeAllOf_10_28_115 {C : xC} {Q : xQ} {K : xK} {I : xI} {L : xL} {z : Bool × Bool × Nat} {b : Nat × Nat}  :
  xrun k_X6_takeAllOf 0 C Q [55, 70, 85, 100, 115, 130, 144, 158] K 8 115 [some (.ref 10), some (.ref 28)] [] (xS I L z) b =
  K 130 [some (.ref 10), some (.ref 28)] [] (xS (xcpy I (34) (Int32.toNatClampNeg 0) (16) (Int32.toNatClampNeg 0) (Int32.toNatClampNeg 24)) L z) b := rfl
set_option maxRecDepth 100000 in
theorem b_X6_takeAllOf_10_28_130 {C : xC} {Q : xQ} {K : xK} {I : xI} {L : xL} {z : Bool × Bool × Nat} {b : Nat × Nat}  :
  xrun k_X6_takeAllOf 0 C Q [55, 70, 85, 100, 115, 130, 144, 158] K 8 130 [some (.ref 10), some (.ref 28)] [] (xS I L z) b =
  K 144 [some (.ref 10), some (.ref 28)] [] (xS (xcpy I (35) (Int32.toNatClampNeg 0) (17) (Int32.toNatClampNeg 0) (Int32.toNatClampNeg 4)) L z) b := rfl
set_option maxRecDepth 100000 in
theorem b_X6_takeAllOf_10_28_144 {C : xC} {Q : xQ} {K : xK} {I : xI} {L : xL} {z : Bool × Bool × Nat} {b : Nat × Nat}  :
  xrun k_X6_takeAllOf 0 C Q [55, 70, 85, 100, 115, 130, 144, 158] K 8 144 [some (.ref 10), some (.ref 28)] [] (xS I L z) b =
  K 158 [some (.ref 10), some (.ref 28)] [] (xS (xcpy I (36) (Int32.toNatClampNeg 0) (18) (Int32.toNatClampNeg 0) (Int32.toNatClampNeg 4)) L z) b := rfl
set_option maxRecDepth 100000 in
theorem b_X6_takeAllOf_10_28_158 {C : xC} {Q : xQ} {K : xK} {I : xI} {L : xL} {z : Bool × Bool × Nat} {b : Nat × Nat}  :
  xrun k_X6_takeAllOf 0 C Q [55, 70, 85, 100, 115, 130, 144, 158] K 4 158 [some (.ref 10), some (.ref 28)] [] (xS I L z) b =
  Q none (xS (xw I 10 5 1) L z) := rfl
set_option maxRecDepth 100000 in
theorem b_X6_takeAllOf_10_19_0 {C : xC} {Q : xQ} {K : xK} {I : xI} {L : xL} {z : Bool × Bool × Nat} {b : Nat × Nat}  :
  xrun k_X6_takeAllOf 0 C Q [55, 70, 85, 100, 115, 130, 144, 158] K 28 0 [some (.ref 10), some (.ref 19)] [] (xS I L z) b =
  K 55 [some (.ref 10), some (.ref 19)] [] (xS (xcpy (xw (xw (xw (xw (xw I 10 0 (I 19 0)) 10 1 ((xw I 10 0 (I 19 0)) 19 1)) 10 2 ((xw (xw I 10 0 (I 19 0)) 10 1 ((xw I 10 0 (I 19 0)) 19 1)) 19 2)) 10 3 ((xw (xw (xw I 10 0 (I 19 0)) 10 1 ((xw I 10 0 (I 19 0)) 19 1)) 10 2 ((xw (xw I 10 0 (I 19 0)) 10 1 ((xw I 10 0 (I 19 0)) 19 1)) 19 2)) 19 3)) 10 4 ((xw (xw (xw (xw I 10 0 (I 19 0)) 10 1 ((xw I 10 0 (I 19 0)) 19 1)) 10 2 ((xw (xw I 10 0 (I 19 0)) 10 1 ((xw I 10 0 (I 19 0)) 19 1)) 19 2)) 10 3 ((xw (xw (xw I 10 0 (I 19 0)) 10 1 ((xw I 10 0 (I 19 0)) 19 1)) 10 2 ((xw (xw I 10 0 (I 19 0)) 10 1 ((xw I 10 0 (I 19 0)) 19 1)) 19 2)) 19 3)) 19 4)) (20) (Int32.toNatClampNeg 0) (11) (Int32.toNatClampNeg 0) (Int32.toNatClampNeg 6)) L z) b := rfl
set_option maxRecDepth 100000 in
theorem b_X6_takeAllOf_10_19_55 {C : xC} {Q : xQ} {K : xK} {I : xI} {L : xL} {z : Bool × Bool × Nat} {b : Nat × Nat}  :
  xrun k_X6_takeAllOf 0 C Q [55, 70, 85, 100, 115, 130, 144, 158] K 8 55 [some (.ref 10), some (.ref 19)] [] (xS I L z) b =
  K 70 [some (.ref 10), some (.ref 19)] [] (xS (xcpy I (21) (Int32.toNatClampNeg 0) (12) (Int32.toNatClampNeg 0) (Int32.toNatClampNeg 6)) L z) b := rfl
set_option maxRecDepth 100000 in
theorem b_X6_takeAllOf_10_19_70 {C : xC} {Q : xQ} {K : xK} {I : xI} {L : xL} {z : Bool × Bool × Nat} {b : Nat × Nat}  :
  xrun k_X6_takeAllOf 0 C Q [55, 70, 85, 100, 115, 130, 144, 158] K 8 70 [some (.ref 10), some (.ref 19)] [] (xS I L z) b =
  K 85 [some (.ref 10), some (.ref 19)] [] (xS (xcpy I (22) (Int32.toNatClampNeg 0) (13) (Int32.toNatClampNeg 0) (Int32.toNatClampNeg 18)) L z) b := rfl
set_option maxRecDepth 100000 in
theorem b_X6_takeAllOf_10_19_85 {C : xC} {Q : xQ} {K : xK} {I : xI} {L : xL} {z : Bool × Bool × Nat} {b : Nat × Nat}  :
  xrun k_X6_takeAllOf 0 C Q [55, 70, 85, 100, 115, 130, 144, 158] K 8 85 [some (.ref 10), some (.ref 19)] [] (xS I L z) b =
  K 100 [some (.ref 10), some (.ref 19)] [] (xS (xcpy I (23) (Int32.toNatClampNeg 0) (14) (Int32.toNatClampNeg 0) (Int32.toNatClampNeg 6)) L z) b := rfl
set_option maxRecDepth 100000 in
theorem b_X6_takeAllOf_10_19_100 {C : xC} {Q : xQ} {K : xK} {I : xI} {L : xL} {z : Bool × Bool × Nat} {b : Nat × Nat}  :
  xrun k_X6_takeAllOf 0 C Q [55, 70, 85, 100, 115, 130, 144, 158] K 8 100 [some (.ref 10), some (.ref 19)] [] (xS I L z) b =
  K 115 [some (.ref 10), some (.ref 19)] [] (xS (xcpy I (24) (Int32.toNatClampNeg 0) (15) (Int32.toNatClampNeg 0) (Int32.toNatClampNeg 6)) L z) b := rfl
set_option maxRecDepth 100000 in
theorem b_X6_takeAllOf_10_19_115 {C : xC} {Q : xQ} {K : xK} {I : xI} {L : xL} {z : Bool × Bool × Nat} {b : Nat × Nat}  :
  xrun k_X6_takeAllOf 0 C Q [55, 70, 85, 100, 115, 130, 144, 158] K 8 115 [some (.ref 10), some (.ref 19)] [] (xS I L z) b =
  K 130 [some (.ref 10), some (.ref 19)] [] (xS (xcpy I (25) (Int32.toNatClampNeg 0) (16) (Int32.toNatClampNeg 0) (Int32.toNatClampNeg 24)) L z) b := rfl
set_option maxRecDepth 100000 in
theorem b_X6_takeAllOf_10_19_130 {C : xC} {Q : xQ} {K : xK} {I : xI} {L : xL} {z : Bool × Bool × Nat} {b : Nat × Nat}  :
  xrun k_X6_takeAllOf 0 C Q [55, 70, 85, 100, 115, 130, 144, 158] K 8 130 [some (.ref 10), some (.ref 19)] [] (xS I L z) b =
  K 144 [some (.ref 10), some (.ref 19)] [] (xS (xcpy I (26) (Int32.toNatClampNeg 0) (17) (Int32.toNatClampNeg 0) (Int32.toNatClampNeg 4)) L z) b := rfl
set_option maxRecDepth 100000 in
theorem b_X6_takeAllOf_10_19_144 {C : xC} {Q : xQ} {K : xK} {I : xI} {L : xL} {z : Bool × Bool × Nat} {b : Nat × Nat}  :
  xrun k_X6_takeAllOf 0 C Q [55, 70, 85, 100, 115, 130, 144, 158] K 8 144 [some (.ref 10), some (.ref 19)] [] (xS I L z) b =
  K 158 [some (.ref 10), some (.ref 19)] [] (xS (xcpy I (27) (Int32.toNatClampNeg 0) (18) (Int32.toNatClampNeg 0) (Int32.toNatClampNeg 4)) L z) b := rfl
set_option maxRecDepth 100000 in
theorem b_X6_takeAllOf_10_19_158 {C : xC} {Q : xQ} {K : xK} {I : xI} {L : xL} {z : Bool × Bool × Nat} {b : Nat × Nat}  :
  xrun k_X6_takeAllOf 0 C Q [55, 70, 85, 100, 115, 130, 144, 158] K 4 158 [some (.ref 10), some (.ref 19)] [] (xS I L z) b =
  Q none (xS (xw I 10 5 1) L z) := rfl
set_option maxRecDepth 100000 in
theorem b_X9_takeFrom_112_66_10_0 {C : xC} {Q : xQ} {K : xK} {I : xI} {L : xL} {z : Nat} {b : Nat × Nat}  :
  xrun k_X9_takeFrom 0 C Q [27, 38, 49, 60, 62, 83, 98, 123, 134] K 13 0 [some (.ref 112), some (.ref 66), none] [] (xS I L (true, false, z)) b =
  C 294 [.ref 83, .ref 129] (xS (xw (xw I 112 9 (I 66 9)) 112 10 ((xw I 112 9 (I 66 9)) 66 10)) L (true, false, z)) (fun r τ => K 27 [some (.ref 112), some (.ref 66), none] (r.toList ++ []) τ b) := rfl
set_option maxRecDepth 100000 in
theorem b_X9_takeFrom_112_66_10_27 {C : xC} {Q : xQ} {K : xK} {I : xI} {L : xL} {z : Nat} {b : Nat × Nat}  :
  xrun k_X9_takeFrom 0 C Q [27, 38, 49, 60, 62, 83, 98, 123, 134] K 5 27 [some (.ref 112), some (.ref 66), none] [] (xS I L (true, false, z)) b =
  C 294 [.ref 84, .ref 130] (xS I L (true, false, z)) (fun r τ => K 38 [some (.ref 112), some (.ref 66), none] (r.toList ++ []) τ b) := rfl
set_option maxRecDepth 100000 in
theorem b_X9_takeFrom_112_66_10_38 {C : xC} {Q : xQ} {K : xK} {I : xI} {L : xL} {z : Nat} {b : Nat × Nat}  :
  xrun k_X9_takeFrom 0 C Q [27, 38, 49, 60, 62, 83, 98, 123, 134] K 5 38 [some (.ref 112), some (.ref 66), none] [] (xS I L (true, false, z)) b =
  C 294 [.ref 92, .ref 138] (xS I L (true, false, z)) (fun r τ => K 49 [some (.ref 112), some (.ref 66), none] (r.toList ++ []) τ b) := rfl
set_option maxRecDepth 100000 in
theorem b_X9_takeFrom_112_66_10_49 {C : xC} {Q : xQ} {K : xK} {I : xI} {L : xL} {z : Nat} {b : Nat × Nat}  :
  xrun k_X9_takeFrom 0 C Q [27, 38, 49, 60, 62, 83, 98, 123, 134] K 5 49 [some (.ref 112), some (.ref 66), none] [] (xS I L (true, false, z)) b =
  C 294 [.ref 93, .ref 139] (xS I L (true, false, z)) (fun r τ => K 60 [some (.ref 112), some (.ref 66), none] (r.toList ++ []) τ b) := rfl
set_option maxRecDepth 100000 in
theorem b_X9_takeFrom_112_66_10_60 {C : xC} {Q : xQ} {K : xK} {I : xI} {L : xL} {z : Nat} {b : Nat × Nat}  :
  xrun k_X9_takeFrom 0 C Q [27, 38, 49, 60, 62, 83, 98, 123, 134] K 2 60 [some (.ref 112), some (.ref 66), none] [] (xS I L (true, false, z)) b =
  K 62 [some (.ref 112), some (.ref 66), some (.int 0)] [] (xS I L (true, false, z)) b := rfl
set_option maxRecDepth 100000 in
theorem b_X9_takeFrom_112_66_10_62 {C : xC} {Q : xQ} {K : xK} {I : xI} {L : xL} {z : Nat} {b : Nat × Nat} {a2 : Int32} :
  xrun k_X9_takeFrom 0 C Q [27, 38, 49, 60, 62, 83, 98, 123, 134] K 12 62 [some (.ref 112), some (.ref 66), some (.int a2)] [] (xS I L (true, false, z)) b =
  (if a2 < 6 then (if xin a2 (6) then (if xin a2 (6) then C 294 [.ref (85 + 1 + Int32.toNatClampNeg a2), .ref (131 + 1 + Int32.toNatClampNeg a2)] (xS I L (true, false, z)) (fun r τ => K 83 [some (.ref 112), some (.ref 66), some (.int a2)] (r.toList ++ []) τ b) else False) else False) else C 294 [.ref 101, .ref 147] (xS (xw I 112 17 (I 66 17)) L (true, false, z)) (fun r τ => K 123 [some (.ref 112), some (.ref 66), some (.int a2)] (r.toList ++ []) τ b)) := rfl
set_option maxRecDepth 100000 in
theorem b_X9_takeFrom_112_66_10_83 {C : xC} {Q : xQ} {K : xK} {I : xI} {L : xL} {z : Nat} {b : Nat × Nat} {a2 : Int32} :
  xrun k_X9_takeFrom 0 C Q [27, 38, 49, 60, 62, 83, 98, 123, 134] K 9 83 [some (.ref 112), some (.ref 66), some (.int a2)] [] (xS I L (true, false, z)) b =
  (if xin a2 (6) then (if xin a2 (6) then C 294 [.ref (94 + 1 + Int32.toNatClampNeg a2), .ref (140 + 1 + Int32.toNatClampNeg a2)] (xS I L (true, false, z)) (fun r τ => K 98 [some (.ref 112), some (.ref 66), some (.int a2)] (r.toList ++ []) τ b) else False) else False) := rfl
set_option maxRecDepth 100000 in
theorem b_X9_takeFrom_112_66_10_123 {C : xC} {Q : xQ} {K : xK} {I : xI} {L : xL} {z : Nat} {b : Nat × Nat} {a2 : Int32} :
  xrun k_X9_takeFrom 0 C Q [27, 38, 49, 60, 62, 83, 98, 123, 134] K 5 123 [some (.ref 112), some (.ref 66), some (.int a2)] [] (xS I L (true, false, z)) b =
  C 294 [.ref 102, .ref 148] (xS I L (true, false, z)) (fun r τ => K 134 [some (.ref 112), some (.ref 66), some (.int a2)] (r.toList ++ []) τ b) := rfl
set_option maxRecDepth 100000 in
theorem b_X9_takeFrom_112_66_10_98 {C : xC} {Q : xQ} {K : xK} {I : xI} {L : xL} {z : Nat} {b : Nat × Nat} {a2 : Int32} :
  xrun k_X9_takeFrom 0 C Q [27, 38, 49, 60, 62, 83, 98, 123, 134] K 2 98 [some (.ref 112), some (.ref 66), some (.int a2)] [] (xS I L (true, false, z)) b =
  K 62 [some (.ref 112), some (.ref 66), some (.int (a2 + 1))] [] (xS I L (true, false, z)) b := rfl
set_option maxRecDepth 100000 in
theorem b_X9_takeFrom_112_66_10_134 {C : xC} {Q : xQ} {K : xK} {I : xI} {L : xL} {z : Nat} {b : Nat × Nat} {a2 : Int32} :
  xrun k_X9_takeFrom 0 C Q [27, 38, 49, 60, 62, 83, 98, 123, 134] K 5 134 [some (.ref 112), some (.ref 66), some (.int a2)] [] (xS I L (true, false, z)) b =
  Q none (xS (xw I 112 20 (I 66 20)) L (true, false, z)) := rfl
set_option maxRecDepth 100000 in
theorem b_X9_takeFrom_66_112_10_0 {C : xC} {Q : xQ} {K : xK} {I : xI} {L : xL} {z : Nat} {b : Nat × Nat}  :
  xrun k_X9_takeFrom 0 C Q [27, 38, 49, 60, 62, 83, 98, 123, 134] K 13 0 [some (.ref 66), some (.ref 112), none] [] (xS I L (true, false, z)) b =
  C 294 [.ref 129, .ref 83] (xS (xw (xw I 66 9 (I 112 9)) 66 10 ((xw I 66 9 (I 112 9)) 112 10)) L (true, false, z)) (fun r τ => K 27 [some (.ref 66), some (.ref 112), none] (r.toList ++ []) τ b) := rfl
set_option maxRecDepth 100000 in
theorem b_X9_takeFrom_66_112_10_27 {C : xC} {Q : xQ} {K : xK} {I : xI} {L : xL} {z : Nat} {b : Nat × Nat}  :
  xrun k_X9_takeFrom 0 C Q [27, 38, 49, 60, 62, 83, 98, 123, 134] K 5 27 [some (.ref 66), some (.ref 112), none] [] (xS I L (true, false, z)) b =
  C 294 [.ref 130, .ref 84] (xS I L (true, false, z)) (fun r τ => K 38 [some (.ref 66), some (.ref 112), none] (r.toList ++ []) τ b) := rfl
set_option maxRecDepth 100000 in
theorem b_X9_takeFrom_66_112_10_38 {C : xC} {Q : xQ} {K : xK} {I : xI} {L : xL} {z : Nat} {b : Nat × Nat}  :
  xrun k_X9_takeFrom 0 C Q [27, 38, 49, 60, 62, 83, 98, 123, 134] K 5 38 [some (.ref 66), some (.ref 112), none] [] (xS I L (true, false, z)) b =
  C 294 [.ref 138, .ref 92] (xS I L (true, false, z)) (fun r τ => K 49 [some (.ref 66), some (.ref 112), none] (r.toList ++ []) τ b) := rfl
set_option maxRecDepth 100000 in
theorem b_X9_takeFrom_66_112_10_49 {C : xC} {Q : xQ} {K : xK} {I : xI} {L : xL} {z : Nat} {b : Nat × Nat}  :
  xrun k_X9_takeFrom 0 C Q [27, 38, 49, 60, 62, 83, 98, 123, 134] K 5 49 [some (.ref 66), some (.ref 112), none] [] (xS I L (true, false, z)) b =
  C 294 [.ref 139, .ref 93] (xS I L (true, false, z)) (fun r τ => K 60 [some (.ref 66), some (.ref 112), none] (r.toList ++ []) τ b) := rfl
set_option maxRecDepth 100000 in
theorem b_X9_takeFrom_66_112_10_60 {C : xC} {Q : xQ} {K : xK} {I : xI} {L : xL} {z : Nat} {b : Nat × Nat}  :
  xrun k_X9_takeFrom 0 C Q [27, 38, 49, 60, 62, 83, 98, 123, 134] K 2 60 [some (.ref 66), some (.ref 112), none] [] (xS I L (true, false, z)) b =
  K 62 [some (.ref 66), some (.ref 112), some (.int 0)] [] (xS I L (true, false, z)) b := rfl
set_option maxRecDepth 100000 in
theorem b_X9_takeFrom_66_112_10_62 {C : xC} {Q : xQ} {K : xK} {I : xI} {L : xL} {z : Nat} {b : Nat × Nat} {a2 : Int32} :
  xrun k_X9_takeFrom 0 C Q [27, 38, 49, 60, 62, 83, 98, 123, 134] K 12 62 [some (.ref 66), some (.ref 112), some (.int a2)] [] (xS I L (true, false, z)) b =
  (if a2 < 6 then (if xin a2 (6) then (if xin a2 (6) then C 294 [.ref (131 + 1 + Int32.toNatClampNeg a2), .ref (85 + 1 + Int32.toNatClampNeg a2)] (xS I L (true, false, z)) (fun r τ => K 83 [some (.ref 66), some (.ref 112), some (.int a2)] (r.toList ++ []) τ b) else False) else False) else C 294 [.ref 147, .ref 101] (xS (xw I 66 17 (I 112 17)) L (true, false, z)) (fun r τ => K 123 [some (.ref 66), some (.ref 112), some (.int a2)] (r.toList ++ []) τ b)) := rfl
set_option maxRecDepth 100000 in
theorem b_X9_takeFrom_66_112_10_83 {C : xC} {Q : xQ} {K : xK} {I : xI} {L : xL} {z : Nat} {b : Nat × Nat} {a2 : Int32} :
  xrun k_X9_takeFrom 0 C Q [27, 38, 49, 60, 62, 83, 98, 123, 134] K 9 83 [some (.ref 66), some (.ref 112), some (.int a2)] [] (xS I L (true, false, z)) b =
  (if xin a2 (6) then (if xin a2 (6) then C 294 [.ref (140 + 1 + Int32.toNatClampNeg a2), .ref (94 + 1 + Int32.toNatClampNeg a2)] (xS I L (true, false, z)) (fun r τ => K 98 [some (.ref 66), some (.ref 112), some (.int a2)] (r.toList ++ []) τ b) else False) else False) := rfl
set_option maxRecDepth 100000 in
theorem b_X9_takeFrom_66_112_10_123 {C : xC} {Q : xQ} {K : xK} {I : xI} {L : xL} {z : Nat} {b : Nat × Nat} {a2 : Int32} :
  xrun k_X9_takeFrom 0 C Q [27, 38, 49, 60, 62, 83, 98, 123, 134] K 5 123 [some (.ref 66), some (.ref 112), some (.int a2)] [] (xS I L (true, false, z)) b =
  C 294 [.ref 148, .ref 102] (xS I L (true, false, z)) (fun r τ => K 134 [some (.ref 66), some (.ref 112), some (.int a2)] (r.toList ++ []) τ b) := rfl
set_option maxRecDepth 100000 in
theorem b_X9_takeFrom_66_112_10_98 {C : xC} {Q : xQ} {K : xK} {I : xI} {L : xL} {z : Nat} {b : Nat × Nat} {a2 : Int32} :
  xrun k_X9_takeFrom 0 C Q [27, 38, 49, 60, 62, 83, 98, 123, 134] K 2 98 [some (.ref 66), some (.ref 112), some (.int a2)] [] (xS I L (true, false, z)) b =
  K 62 [some (.ref 66), some (.ref 112), some (.int (a2 + 1))] [] (xS I L (true, false, z)) b := rfl
set_option maxRecDepth 100000 in
theorem b_X9_takeFrom_66_112_10_134 {C : xC} {Q : xQ} {K : xK} {I : xI} {L : xL} {z : Nat} {b : Nat × Nat} {a2 : Int32} :
  xrun k_X9_takeFrom 0 C Q [27, 38, 49, 60, 62, 83, 98, 123, 134] K 5 134 [some (.ref 66), some (.ref 112), some (.int a2)] [] (xS I L (true, false, z)) b =
  Q none (xS (xw I 66 20 (I 112 20)) L (true, false, z)) := rfl
set_option maxRecDepth 100000 in
theorem b_X9_takeFrom_158_66_01_0 {C : xC} {Q : xQ} {K : xK} {I : xI} {L : xL} {z : Nat} {b : Nat × Nat}  :
  xrun k_X9_takeFrom 0 C Q [27, 38, 49, 60, 62, 83, 98, 123, 134] K 13 0 [some (.ref 158), some (.ref 66), none] [] (xS I L (false, true, z)) b =
  C 294 [.ref 83, .ref 175] (xS (xw (xw I 158 9 (I 66 9)) 158 10 ((xw I 158 9 (I 66 9)) 66 10)) L (false, true, z)) (fun r τ => K 27 [some (.ref 158), some (.ref 66), none] (r.toList ++ []) τ b) := rfl
set_option maxRecDepth 100000 in
theorem b_X9_takeFrom_158_66_01_27 {C : xC} {Q : xQ} {K : xK} {I : xI} {L : xL} {z : Nat} {b : Nat × Nat}  :
  xrun k_X9_takeFrom 0 C Q [27, 38, 49, 60, 62, 83, 98, 123, 134] K 5 27 [some (.ref 158), some (.ref 66), none] [] (xS I L (false, true, z)) b =
  C 294 [.ref 84, .ref 176] (xS I L (false, true, z)) (fun r τ => K 38 [some (.ref 158), some (.ref 66), none] (r.toList ++ []) τ b) := rfl
set_option maxRecDepth 100000 in
theorem b_X9_takeFrom_158_66_01_38 {C : xC} {Q : xQ} {K : xK} {I : xI} {L : xL} {z : Nat} {b : Nat × Nat}  :
  xrun k_X9_takeFrom 0 C Q [27, 38, 49, 60, 62, 83, 98, 123, 134] K 5 38 [some (.ref 158), some (.ref 66), none] [] (xS I L (false, true, z)) b =
  C 294 [.ref 92, .ref 184] (xS I L (false, true, z)) (fun r τ => K 49 [some (.ref 158), some (.ref 66), none] (r.toList ++ []) τ b) := rfl
set_option maxRecDepth 100000 in
theorem b_X9_takeFrom_158_66_01_49 {C : xC} {Q : xQ} {K : xK} {I : xI} {L : xL} {z : Nat} {b : Nat × Nat}  :
  xrun k_X9_takeFrom 0 C Q [27, 38, 49, 60, 62, 83, 98, 123, 134] K 5 49 [some (.ref 158), some (.ref 66), none] [] (xS I L (false, true, z)) b =
  C 294 [.ref 93, .ref 185] (xS I L (false, true, z)) (fun r τ => K 60 [some (.ref 158), some (.ref 66), none] (r.toList ++ []) τ b) := rfl
set_option maxRecDepth 100000 in
theorem b_X9_takeFrom_158_66_01_60 {C : xC} {Q : xQ} {K : xK} {I : xI} {L : xL} {z : Nat} {b : Nat × Nat}  :
  xrun k_X9_takeFrom 0 C Q [27, 38, 49, 60, 62, 83, 98, 123, 134] K 2 60 [some (.ref 158), some (.ref 66), none] [] (xS I L (false, true, z)) b =
  K 62 [some (.ref 158), some (.ref 66), some (.int 0)] [] (xS I L (false, true, z)) b := rfl
set_option maxRecDepth 100000 in
theorem b_X9_takeFrom_158_66_01_62 {C : xC} {Q : xQ} {K : xK} {I : xI} {L : xL} {z : Nat} {b : Nat × Nat} {a2 : Int32} :
  xrun k_X9_takeFrom 0 C Q [27, 38, 49, 60, 62, 83, 98, 123, 134] K 12 62 [some (.ref 158), some (.ref 66), some (.int a2)] [] (xS I L (false, true, z)) b =
  (if a2 < 6 then (if xin a2 (6) then (if xin a2 (6) then C 294 [.ref (85 + 1 + Int32.toNatClampNeg a2), .ref (177 + 1 + Int32.toNatClampNeg a2)] (xS I L (false, true, z)) (fun r τ => K 83 [some (.ref 158), some (.ref 66), some (.int a2)] (r.toList ++ []) τ b) else False) else False) else C 294 [.ref 101, .ref 193] (xS (xw I 158 17 (I 66 17)) L (false, true, z)) (fun r τ => K 123 [some (.ref 158), some (.ref 66), some (.int a2)] (r.toList ++ []) τ b)) := rfl
set_option maxRecDepth 100000 in
theorem b_X9_takeFrom_158_66_01_83 {C : xC} {Q : xQ} {K : xK} {I : xI} {L : xL} {z : Nat} {b : Nat × Nat} {a2 : Int32} :
  xrun k_X9_takeFrom 0 C Q [27, 38, 49, 60, 62, 83, 98, 123, 134] K 9 83 [some (.ref 158), some (.ref 66), some (.int a2)] [] (xS I L (false, true, z)) b =
  (if xin a2 (6) then (if xin a2 (6) then C 294 [.ref (94 + 1 + Int32.toNatClampNeg a2), .ref (186 + 1 + Int32.toNatClampNeg a2)] (xS I L (false, true, z)) (fun r τ => K 98 [some (.ref 158), some (.ref 66), some (.int a2)] (r.toList ++ []) τ b) else False) else False) := rfl
set_option maxRecDepth 100000 in
theorem b_X9_takeFrom_158_66_01_123 {C : xC} {Q : xQ} {K : xK} {I : xI} {L : xL} {z : Nat} {b : Nat × Nat} {a2 : Int32} :
  xrun k_X9_takeFrom 0 C Q [27, 38, 49, 60, 62, 83, 98, 123, 134] K 5 123 [some (.ref 158), some (.ref 66), some (.int a2)] [] (xS I L (false, true, z)) b =
  C 294 [.ref 102, .ref 194] (xS I L (false, true, z)) (fun r τ => K 134 [some (.ref 158), some (.ref 66), some (.int a2)] (r.toList ++ []) τ b) := rfl
set_option maxRecDepth 100000 in
theorem b_X9_takeFrom_158_66_01_98 {C : xC} {Q : xQ} {K : xK} {I : xI} {L : xL} {z : Nat} {b : Nat × Nat} {a2 : Int32} :
  xrun k_X9_takeFrom 0 C Q [27, 38, 49, 60, 62, 83, 98, 123, 134] K 2 98 [some (.ref 158), some (.ref 66), some (.int a2)] [] (xS I L (false, true, z)) b =
  K 62 [some (.ref 158), some (.ref 66), some (.int (a2 + 1))] [] (xS I L (false, true, z)) b := rfl
set_option maxRecDepth 100000 in
theorem b_X9_takeFrom_158_66_01_134 {C : xC} {Q : xQ} {K : xK} {I : xI} {L : xL} {z : Nat} {b : Nat × Nat} {a2 : Int32} :
  xrun k_X9_takeFrom 0 C Q [27, 38, 49, 60, 62, 83, 98, 123, 134] K 5 134 [some (.ref 158), some (.ref 66), some (.int a2)] [] (xS I L (false, true, z)) b =
  Q none (xS (xw I 158 20 (I 66 20)) L (false, true, z)) := rfl
set_option maxRecDepth 100000 in
theorem b_X9_takeFrom_66_158_01_0 {C : xC} {Q : xQ} {K : xK} {I : xI} {L : xL} {z : Nat} {b : Nat × Nat}  :
  xrun k_X9_takeFrom 0 C Q [27, 38, 49, 60, 62, 83, 98, 123, 134] K 13 0 [some (.ref 66), some (.ref 158), none] [] (xS I L (false, true, z)) b =
  C 294 [.ref 175, .ref 83] (xS (xw (xw I 66 9 (I 158 9)) 66 10 ((xw I 66 9 (I 158 9)) 158 10)) L (false, true, z)) (fun r τ => K 27 [some (.ref 66), some (.ref 158), none] (r.toList ++ []) τ b) := rfl
set_option maxRecDepth 100000 in
theorem b_X9_takeFrom_66_158_01_27 {C : xC} {Q : xQ} {K : xK} {I : xI} {L : xL} {z : Nat} {b : Nat × Nat}  :
  xrun k_X9_takeFrom 0 C Q [27, 38, 49, 60, 62, 83, 98, 123, 134] K 5 27 [some (.ref 66), some (.ref 158), none] [] (xS I L (false, true, z)) b =
  C 294 [.ref 176, .ref 84] (xS I L (false, true, z)) (fun r τ => K 38 [some (.ref 66), some (.ref 158), none] (r.toList ++ []) τ b) := rfl
set_option maxRecDepth 100000 in
theorem b_X9_takeFrom_66_158_01_38 {C : xC} {Q : xQ} {K : xK} {I : xI} {L : xL} {z : Nat} {b : Nat × Nat}  :
  xrun k_X9_takeFrom 0 C Q [27, 38, 49, 60, 62, 83, 98, 123, 134] K 5 38 [some (.ref 66), some (.ref 158), none] [] (xS I L (false, true, z)) b =
  C 294 [.ref 184, .ref 92] (xS I L (false, true, z)) (fun r τ => K 49 [some (.ref 66), some (.ref 158), none] (r.toList ++ []) τ b) := rfl
set_option maxRecDepth 100000 in
theorem b_X9_takeFrom_66_158_01_49 {C : xC} {Q : xQ} {K : xK} {I : xI} {L : xL} {z : Nat} {b : Nat × Nat}  :
  xrun k_X9_takeFrom 0 C Q [27, 38, 49, 60, 62, 83, 98, 123, 134] K 5 49 [some (.ref 66), some (.ref 158), none] [] (xS I L (false, true, z)) b =
  C 294 [.ref 185, .ref 93] (xS I L (false, true, z)) (fun r τ => K 60 [some (.ref 66), some (.ref 158), none] (r.toList ++ []) τ b) := rfl
set_option maxRecDepth 100000 in
theorem b_X9_takeFrom_66_158_01_60 {C : xC} {Q : xQ} {K : xK} {I : xI} {L : xL} {z : Nat} {b : Nat × Nat}  :
  xrun k_X9_takeFrom 0 C Q [27, 38, 49, 60, 62, 83, 98, 123, 134] K 2 60 [some (.ref 66), some (.ref 158), none] [] (xS I L (false, true, z)) b =
  K 62 [some (.ref 66), some (.ref 158), some (.int 0)] [] (xS I L (false, true, z)) b := rfl
set_option maxRecDepth 100000 in
theorem b_X9_takeFrom_66_158_01_62 {C : xC} {Q : xQ} {K : xK} {I : xI} {L : xL} {z : Nat} {b : Nat × Nat} {a2 : Int32} :
  xrun k_X9_takeFrom 0 C Q [27, 38, 49, 60, 62, 83, 98, 123, 134] K 12 62 [some (.ref 66), some (.ref 158), some (.int a2)] [] (xS I L (false, true, z)) b =
  (if a2 < 6 then (if xin a2 (6) then (if xin a2 (6) then C 294 [.ref (177 + 1 + Int32.toNatClampNeg a2), .ref (85 + 1 + Int32.toNatClampNeg a2)] (xS I L (false, true, z)) (fun r τ => K 83 [some (.ref 66), some (.ref 158), some (.int a2)] (r.toList ++ []) τ b) else False) else False) else C 294 [.ref 193, .ref 101] (xS (xw I 66 17 (I 158 17)) L (false, true, z)) (fun r τ => K 123 [some (.ref 66), some (.ref 158), some (.int a2)] (r.toList ++ []) τ b)) := rfl
set_option maxRecDepth 100000 in
theorem b_X9_takeFrom_66_158_01_83 {C : xC} {Q : xQ} {K : xK} {I : xI} {L : xL} {z : Nat} {b : Nat × Nat} {a2 : Int32} :
  xrun k_X9_takeFrom 0 C Q [27, 38, 49, 60, 62, 83, 98, 123, 134] K 9 83 [some (.ref 66), some (.ref 158), some (.int a2)] [] (xS I L (false, true, z)) b =
  (if xin a2 (6) then (if xin a2 (6) then C 294 [.ref (186 + 1 + Int32.toNatClampNeg a2), .ref (94 + 1 + Int32.toNatClampNeg a2)] (xS I L (false, true, z)) (fun r τ => K 98 [some (.ref 66), some (.ref 158), some (.int a2)] (r.toList ++ []) τ b) else False) else False) := rfl
set_option maxRecDepth 100000 in
theorem b_X9_takeFrom_66_158_01_123 {C : xC} {Q : xQ} {K : xK} {I : xI} {L : xL} {z : Nat} {b : Nat × Nat} {a2 : Int32} :
  xrun k_X9_takeFrom 0 C Q [27, 38, 49, 60, 62, 83, 98, 123, 134] K 5 123 [some (.ref 66), some (.ref 158), some (.int a2)] [] (xS I L (false, true, z)) b =
  C 294 [.ref 194, .ref 102] (xS I L (false, true, z)) (fun r τ => K 134 [some (.ref 66), some (.ref 158), some (.int a2)] (r.toList ++ []) τ b) := rfl
set_option maxRecDepth 100000 in
theorem b_X9_takeFrom_66_158_01_98 {C : xC} {Q : xQ} {K : xK} {I : xI} {L : xL} {z : Nat} {b : Nat × Nat} {a2 : Int32} :
  xrun k_X9_takeFrom 0 C Q [27, 38, 49, 60, 62, 83, 98, 123, 134] K 2 98 [some (.ref 66), some (.ref 158), some (.int a2)] [] (xS I L (false, true, z)) b =
  K 62 [some (.ref 66), some (.ref 158), some (.int (a2 + 1))] [] (xS I L (false, true, z)) b := rfl
set_option maxRecDepth 100000 in
theorem b_X9_takeFrom_66_158_01_134 {C : xC} {Q : xQ} {K : xK} {I : xI} {L : xL} {z : Nat} {b : Nat × Nat} {a2 : Int32} :
  xrun k_X9_takeFrom 0 C Q [27, 38, 49, 60, 62, 83, 98, 123, 134] K 5 134 [some (.ref 66), some (.ref 158), some (.int a2)] [] (xS I L (false, true, z)) b =
  Q none (xS (xw I 66 20 (I 158 20)) L (false, true, z)) := rfl
set_option maxRecDepth 100000 in
theorem b_X9_takeFrom_112_66_11_0 {C : xC} {Q : xQ} {K : xK} {I : xI} {L : xL} {z : Nat} {b : Nat × Nat}  :
  xrun k_X9_takeFrom 0 C Q [27, 38, 49, 60, 62, 83, 98, 123, 134] K 13 0 [some (.ref 112), some (.ref 66), none] [] (xS I L (true, true, z)) b =
  C 294 [.ref 83, .ref 129] (xS (xw (xw I 112 9 (I 66 9)) 112 10 ((xw I 112 9 (I 66 9)) 66 10)) L (true, true, z)) (fun r τ => K 27 [some (.ref 112), some (.ref 66), none] (r.toList ++ []) τ b) := rfl
set_option maxRecDepth 100000 in
theorem b_X9_takeFrom_112_66_11_27 {C : xC} {Q : xQ} {K : xK} {I : xI} {L : xL} {z : Nat} {b : Nat × Nat}  :
  xrun k_X9_takeFrom 0 C Q [27, 38, 49, 60, 62, 83, 98, 123, 134] K 5 27 [some (.ref 112), some (.ref 66), none] [] (xS I L (true, true, z)) b =
  C 294 [.ref 84, .ref 130] (xS I L (true, true, z)) (fun r τ => K 38 [some (.ref 112), some (.ref 66), none] (r.toList ++ []) τ b) := rfl
set_option maxRecDepth 100000 in
theorem b_X9_takeFrom_112_66_11_38 {C : xC} {Q : xQ} {K : xK} {I : xI} {L : xL} {z : Nat} {b : Nat × Nat}  :
  xrun k_X9_takeFrom 0 C Q [27, 38, 49, 60, 62, 83, 98, 123, 134] K 5 38 [some (.ref 112), some (.ref 66), none] [] (xS I L (true, true, z)) b =
  C 294 [.ref 92, .ref 138] (xS I L (true, true, z)) (fun r τ => K 49 [some (.ref 112), some (.ref 66), none] (r.toList ++ []) τ b) := rfl
set_option maxRecDepth 100000 in
theorem b_X9_takeFrom_112_66_11_49 {C : xC} {Q : xQ} {K : xK} {I : xI} {L : xL} {z : Nat} {b : Nat × Nat}  :
  xrun k_X9_takeFrom 0 C Q [27, 38, 49, 60, 62, 83, 98, 123, 134] K 5 49 [some (.ref 112), some (.ref 66), none] [] (xS I L (true, true, z)) b =
  C 294 [.ref 93, .ref 139] (xS I L (true, true, z)) (fun r τ => K 60 [some (.ref 112), some (.ref 66), none] (r.toList ++ []) τ b) := rfl
set_option maxRecDepth 100000 in
theorem b_X9_takeFrom_112_66_11_60 {C : xC} {Q : xQ} {K : xK} {I : xI} {L : xL} {z : Nat} {b : Nat × Nat}  :
  xrun k_X9_takeFrom 0 C Q [27, 38, 49, 60, 62, 83, 98, 123, 134] K 2 60 [some (.ref 112), some (.ref 66), none] [] (xS I L (true, true, z)) b =
  K 62 [some (.ref 112), some (.ref 66), some (.int 0)] [] (xS I L (true, true, z)) b := rfl
set_option maxRecDepth 100000 in
theorem b_X9_takeFrom_112_66_11_62 {C : xC} {Q : xQ} {K : xK} {I : xI} {L : xL} {z : Nat} {b : Nat × Nat} {a2 : Int32} :
  xrun k_X9_takeFrom 0 C Q [27, 38, 49, 60, 62, 83, 98, 123, 134] K 12 62 [some (.ref 112), some (.ref 66), some (.int a2)] [] (xS I L (true, true, z)) b =
  (if a2 < 6 then (if xin a2 (6) then (if xin a2 (6) then C 294 [.ref (85 + 1 + Int32.toNatClampNeg a2), .ref (131 + 1 + Int32.toNatClampNeg a2)] (xS I L (true, true, z)) (fun r τ => K 83 [some (.ref 112), some (.ref 66), some (.int a2)] (r.toList ++ []) τ b) else False) else False) else C 294 [.ref 101, .ref 147] (xS (xw I 112 17 (I 66 17)) L (true, true, z)) (fun r τ => K 123 [some (.ref 112), some (.ref 66), some (.int a2)] (r.toList ++ []) τ b)) := rfl
set_option maxRecDepth 100000 in
theorem b_X9_takeFrom_112_66_11_83 {C : xC} {Q : xQ} {K : xK} {I : xI} {L : xL} {z : Nat} {b : Nat × Nat} {a2 : Int32} :
  xrun k_X9_takeFrom 0 C Q [27, 38, 49, 60, 62, 83, 98, 123, 134] K 9 83 [some (.ref 112), some (.ref 66), some (.int a2)] [] (xS I L (true, true, z)) b =
  (if xin a2 (6) then (if xin a2 (6) then C 294 [.ref (94 + 1 + Int32.toNatClampNeg a2), .ref (140 + 1 + Int32.toNatClampNeg a2)] (xS I L (true, true, z)) (fun r τ => K 98 [some (.ref 112), some (.ref 66), some (.int a2)] (r.toList ++ []) τ b) else False) else False) := rfl
set_option maxRecDepth 100000 in
theorem b_X9_takeFrom_112_66_11_123 {C : xC} {Q : xQ} {K : xK} {I : xI} {L : xL} {z : Nat} {b : Nat × Nat} {a2 : Int32} :
  xrun k_X9_takeFrom 0 C Q [27, 38, 49, 60, 62, 83, 98, 123, 134] K 5 123 [some (.ref 112), some (.ref 66), some (.int a2)] [] (xS I L (true, true, z)) b =
  C 294 [.ref 102, .ref 148] (xS I L (true, true, z)) (fun r τ => K 134 [some (.ref 112), some (.ref 66), some (.int a2)] (r.toList ++ []) τ b) := rfl
set_option maxRecDepth 100000 in
theorem b_X9_takeFrom_112_66_11_98 {C : xC} {Q : xQ} {K : xK} {I : xI} {L : xL} {z : Nat} {b : Nat × Nat} {a2 : Int32} :
  xrun k_X9_takeFrom 0 C Q [27, 38, 49, 60, 62, 83, 98, 123, 134] K 2 98 [some (.ref 112), some (.ref 66), some (.int a2)] [] (xS I L (true, true, z)) b =
  K 62 [some (.ref 112), some (.ref 66), some (.int (a2 + 1))] [] (xS I L (true, true, z)) b := rfl
set_option maxRecDepth 100000 in
theorem b_X9_takeFrom_112_66_11_134 {C : xC} {Q : xQ} {K : xK} {I : xI} {L : xL} {z : Nat} {b : Nat × Nat} {a2 : Int32} :
  xrun k_X9_takeFrom 0 C Q [27, 38, 49, 60, 62, 83, 98, 123, 134] K 5 134 [some (.ref 112), some (.ref 66), some (.int a2)] [] (xS I L (true, true, z)) b =
  Q none (xS (xw I 112 20 (I 66 20)) L (true, true, z)) := rfl
set_option maxRecDepth 100000 in
theorem b_X9_takeFrom_66_112_11_0 {C : xC} {Q : xQ} {K : xK} {I : xI} {L : xL} {z : Nat} {b : Nat × Nat}  :
  xrun k_X9_takeFrom 0 C Q [27, 38, 49, 60, 62, 83, 98, 123, 134] K 13 0 [some (.ref 66), some (.ref 112), none] [] (xS I L (true, true, z)) b =
  C 294 [.ref 129, .ref 83] (xS (xw (xw I 66 9 (I 112 9)) 66 10 ((xw I 66 9 (I 112 9)) 112 10)) L (true, true, z)) (fun r τ => K 27 [some (.ref 66), some (.ref 112), none] (r.toList ++ []) τ b) := rfl
set_option maxRecDepth 100000 in
theorem b_X9_takeFrom_66_112_11_27 {C : xC} {Q : xQ} {K : xK} {I : xI} {L : xL} {z : Nat} {b : Nat × Nat}  :
  xrun k_X9_takeFrom 0 C Q [27, 38, 49, 60, 62, 83, 98, 123, 134] K 5 27 [some (.ref 66), some (.ref 112), none] [] (xS I L (true, true, z)) b =
  C 294 [.ref 130, .ref 84] (xS I L (true, true, z)) (fun r τ => K 38 [some (.ref 66), some (.ref 112), none] (r.toList ++ []) τ b) := rfl
set_option maxRecDepth 100000 in
theorem b_X9_takeFrom_66_112_11_38 {C : xC} {Q : xQ} {K : xK} {I : xI} {L : xL} {z : Nat} {b : Nat × Nat}  :
  xrun k_X9_takeFrom 0 C Q [27, 38, 49, 60, 62, 83, 98, 123, 134] K 5 38 [some (.ref 66), some (.ref 112), none] [] (xS I L (true, true, z)) b =
  C 294 [.ref 138, .ref 92] (xS I L (true, true, z)) (fun r τ => K 49 [some (.ref 66), some (.ref 112), none] (r.toList ++ []) τ b) := rfl
set_option maxRecDepth 100000 in
theorem b_X9_takeFrom_66_112_11_49 {C : xC} {Q : xQ} {K : xK} {I : xI} {L : xL} {z : Nat} {b : Nat × Nat}  :
  xrun k_X9_takeFrom 0 C Q [27, 38, 49, 60, 62, 83, 98, 123, 134] K 5 49 [some (.ref 66), some (.ref 112), none] [] (xS I L (true, true, z)) b =
  C 294 [.ref 139, .ref 93] (xS I L (true, true, z)) (fun r τ => K 60 [some (.ref 66), some (.ref 112), none] (r.toList ++ []) τ b) := rfl
set_option maxRecDepth 100000 in
theorem b_X9_takeFrom_66_112_11_60 {C : xC} {Q : xQ} {K : xK} {I : xI} {L : xL} {z : Nat} {b : Nat × Nat}  :
  xrun k_X9_takeFrom 0 C Q [27, 38, 49, 60, 62, 83, 98, 123, 134] K 2 60 [some (.ref 66), some (.ref 112), none] [] (xS I L (true, true, z)) b =
  K 62 [some (.ref 66), some (.ref 112), some (.int 0)] [] (xS I L (true, true, z)) b := rfl
set_option maxRecDepth 100000 in
theorem b_X9_takeFrom_66_112_11_62 {C : xC} {Q : xQ} {K : xK} {I : xI} {L : xL} {z : Nat} {b : Nat × Nat} {a2 : Int32} :
  xrun k_X9_takeFrom 0 C Q [27, 38, 49, 60, 62, 83, 98, 123, 134] K 12 62 [some (.ref 66), some (.ref 112), some (.int a2)] [] (xS I L (true, true, z)) b =
  (if a2 < 6 then (if xin a2 (6) then (if xin a2 (6) then C 294 [.ref (131 + 1 + Int32.toNatClampNeg a2), .ref (85 + 1 + Int32.toNatClampNeg a2)] (xS I L (true, true, z)) (fun r τ => K 83 [some (.ref 66), some (.ref 112), some (.int a2)] (r.toList ++ []) τ b) else False) else False) else C 294 [.ref 147, .ref 101] (xS (xw I 66 17 (I 112 17)) L (true, true, z)) (fun r τ => K 123 [some (.ref 66), some (.ref 112), some (.int a2)] (r.toList ++ []) τ b)) := rfl
set_option maxRecDepth 100000 in
theorem b_X9_takeFrom_66_112_11_83 {C : xC} {Q : xQ} {K : xK} {I : xI} {L : xL} {z : Nat} {b : Nat × Nat} {a2 : Int32} :
  xrun k_X9_takeFrom 0 C Q [27, 38, 49, 60, 62, 83, 98, 123, 134] K 9 83 [some (.ref 66), some (.ref 112), some (.int a2)] [] (xS I L (true, true, z)) b =
  (if xin a2 (6) then (if xin a2 (6) then C 294 [.ref (140 + 1 + Int32.toNatClampNeg a2), .ref (94 + 1 + Int32.toNatClampNeg a2)] (xS I L (true, true, z)) (fun r τ => K 98 [some (.ref 66), some (.ref 112), some (.int a2)] (r.toList ++ []) τ b) else False) else False) := rfl
set_option maxRecDepth 100000 in
theorem b_X9_takeFrom_66_112_11_123 {C : xC} {Q : xQ} {K : xK} {I : xI} {L : xL} {z : Nat} {b : Nat × Nat} {a2 : Int32} :
  xrun k_X9_takeFrom 0 C Q [27, 38, 49, 60, 62, 83, 98, 123, 134] K 5 123 [some (.ref 66), some (.ref 112), some (.int a2)] [] (xS I L (true, true, z)) b =
  C 294 [.ref 148, .ref 102] (xS I L (true, true, z)) (fun r τ => K 134 [some (.ref 66), some (.ref 112), some (.int a2)] (r.toList ++ []) τ b) := rfl
set_option maxRecDepth 100000 in
theorem b_X9_takeFrom_66_112_11_98 {C : xC} {Q : xQ} {K : xK} {I : xI} {L : xL} {z : Nat} {b : Nat × Nat} {a2 : Int32} :
  xrun k_X9_takeFrom 0 C Q [27, 38, 49, 60, 62, 83, 98, 123, 134] K 2 98 [some (.ref 66), some (.ref 112), some (.int a2)] [] (xS I L (true, true, z)) b =
  K 62 [some (.ref 66), some (.ref 112), some (.int (a2 + 1))] [] (xS I L (true, true, z)) b := rfl
set_option maxRecDepth 100000 in
theorem b_X9_takeFrom_66_112_11_134 {C : xC} {Q : xQ} {K : xK} {I : xI} {L : xL} {z : Nat} {b : Nat × Nat} {a2 : Int32} :
  xrun k_X9_takeFrom 0 C Q [27, 38, 49, 60, 62, 83, 98, 123, 134] K 5 134 [some (.ref 66), some (.ref 112), some (.int a2)] [] (xS I L (true, true, z)) b =
  Q none (xS (xw I 66 20 (I 112 20)) L (true, true, z)) := rfl
set_option maxRecDepth 100000 in
theorem b_X9_takeFrom_158_66_11_0 {C : xC} {Q : xQ} {K : xK} {I : xI} {L : xL} {z : Nat} {b : Nat × Nat}  :
  xrun k_X9_takeFrom 0 C Q [27, 38, 49, 60, 62, 83, 98, 123, 134] K 13 0 [some (.ref 158), some (.ref 66), none] [] (xS I L (true, true, z)) b =
  C 294 [.ref 83, .ref 175] (xS (xw (xw I 158 9 (I 66 9)) 158 10 ((xw I 158 9 (I 66 9)) 66 10)) L (true, true, z)) (fun r τ => K 27 [some (.ref 158), some (.ref 66), none] (r.toList ++ []) τ b) := rfl
set_option maxRecDepth 100000 in
theorem b_X9_takeFrom_158_66_11_27 {C : xC} {Q : xQ} {K : xK} {I : xI} {L : xL} {z : Nat} {b : Nat × Nat}  :
  xrun k_X9_takeFrom 0 C Q [27, 38, 49, 60, 62, 83, 98, 123, 134] K 5 27 [some (.ref 158), some (.ref 66), none] [] (xS I L (true, true, z)) b =
  C 294 [.ref 84, .ref 176] (xS I L (true, true, z)) (fun r τ => K 38 [some (.ref 158), some (.ref 66), none] (r.toList ++ []) τ b) := rfl
set_option maxRecDepth 100000 in
theorem b_X9_takeFrom_158_66_11_38 {C : xC} {Q : xQ} {K : xK} {I : xI} {L : xL} {z : Nat} {b : Nat × Nat}  :
  xrun k_X9_takeFrom 0 C Q [27, 38, 49, 60, 62, 83, 98, 123, 134] K 5 38 [some (.ref 158), some (.ref 66), none] [] (xS I L (true, true, z)) b =
  C 294 [.ref 92, .ref 184] (xS I L (true, true, z)) (fun r τ => K 49 [some (.ref 158), some (.ref 66), none] (r.toList ++ []) τ b) := rfl
set_option maxRecDepth 100000 in
theorem b_X9_takeFrom_158_66_11_49 {C : xC} {Q : xQ} {K : xK} {I : xI} {L : xL} {z : Nat} {b : Nat × Nat}  :
  xrun k_X9_takeFrom 0 C Q [27, 38, 49, 60, 62, 83, 98, 123, 134] K 5 49 [some (.ref 158), some (.ref 66), none] [] (xS I L (true, true, z)) b =
  C 294 [.ref 93, .ref 185] (xS I L (true, true, z)) (fun r τ => K 60 [some (.ref 158), some (.ref 66), none] (r.toList ++ []) τ b) := rfl
set_option maxRecDepth 100000 in
theorem b_X9_takeFrom_158_66_11_60 {C : xC} {Q : xQ} {K : xK} {I : xI} {L : xL} {z : Nat} {b : Nat × Nat}  :
  xrun k_X9_takeFrom 0 C Q [27, 38, 49, 60, 62, 83, 98, 123, 134] K 2 60 [some (.ref 158), some (.ref 66), none] [] (xS I L (true, true, z)) b =
  K 62 [some (.ref 158), some (.ref 66), some (.int 0)] [] (xS I L (true, true, z)) b := rfl
set_option maxRecDepth 100000 in
theorem b_X9_takeFrom_158_66_11_62 {C : xC} {Q : xQ} {K : xK} {I : xI} {L : xL} {z : Nat} {b : Nat × Nat} {a2 : Int32} :
  xrun k_X9_takeFrom 0 C Q [27, 38, 49, 60, 62, 83, 98, 123, 134] K 12 62 [some (.ref 158), some (.ref 66), some (.int a2)] [] (xS I L (true, true, z)) b =
  (if a2 < 6 then (if xin a2 (6) then (if xin a2 (6) then C 294 [.ref (85 + 1 + Int32.toNatClampNeg a2), .ref (177 + 1 + Int32.toNatClampNeg a2)] (xS I L (true, true, z)) (fun r τ => K 83 [some (.ref 158), some (.ref 66), some (.int a2)] (r.toList ++ []) τ b) else False) else False) else C 294 [.ref 101, .ref 193] (xS (xw I 158 17 (I 66 17)) L (true, true, z)) (fun r τ => K 123 [some (.ref 158), some (.ref 66), some (.int a2)] (r.toList ++ []) τ b)) := rfl
set_option maxRecDepth 100000 in
theorem b_X9_takeFrom_158_66_11_83 {C : xC} {Q : xQ} {K : xK} {I : xI} {L : xL} {z : Nat} {b : Nat × Nat} {a2 : Int32} :
  xrun k_X9_takeFrom 0 C Q [27, 38, 49, 60, 62, 83, 98, 123, 134] K 9 83 [some (.ref 158), some (.ref 66), some (.int a2)] [] (xS I L (true, true, z)) b =
  (if xin a2 (6) then (if xin a2 (6) then C 294 [.ref (94 + 1 + Int32.toNatClampNeg a2), .ref (186 + 1 + Int32.toNatClampNeg a2)] (xS I L (true, true, z)) (fun r τ => K 98 [some (.ref 158), some (.ref 66), some (.int a2)] (r.toList ++ []) τ b) else False) else False) := rfl
set_option maxRecDepth 100000 in
theorem b_X9_takeFrom_158_66_11_123 {C : xC} {Q : xQ} {K : xK} {I : xI} {L : xL} {z : Nat} {b : Nat × Nat} {a2 : Int32} :
  xrun k_X9_takeFrom 0 C Q [27, 38, 49, 60, 62, 83, 98, 123, 134] K 5 123 [some (.ref 158), some (.ref 66), some (.int a2)] [] (xS I L (true, true, z)) b =
  C 294 [.ref 102, .ref 194] (xS I L (true, true, z)) (fun r τ => K 134 [some (.ref 158), some (.ref 66), some (.int a2)] (r.toList ++ []) τ b) := rfl
set_option maxRecDepth 100000 in
theorem b_X9_takeFrom_158_66_11_98 {C : xC} {Q : xQ} {K : xK} {I : xI} {L : xL} {z : Nat} {b : Nat × Nat} {a2 : Int32} :
  xrun k_X9_takeFrom 0 C Q [27, 38, 49, 60, 62, 83, 98, 123, 134] K 2 98 [some (.ref 158), some (.ref 66), some (.int a2)] [] (xS I L (true, true, z)) b =
  K 62 [some (.ref 158), some (.ref 66), some (.int (a2 + 1))] [] (xS I L (true, true, z)) b := rfl
set_option maxRecDepth 100000 in
theorem b_X9_takeFrom_158_66_11_134 {C : xC} {Q : xQ} {K : xK} {I : xI} {L : xL} {z : Nat} {b : Nat × Nat} {a2 : Int32} :
  xrun k_X9_takeFrom 0 C Q [27, 38, 49, 60, 62, 83, 98, 123, 134] K 5 134 [some (.ref 158), some (.ref 66), some (.int a2)] [] (xS I L (true, true, z)) b =
  Q none (xS (xw I 158 20 (I 66 20)) L (true, true, z)) := rfl
set_option maxRecDepth 100000 in
theorem b_X9_takeFrom_66_158_11_0 {C : xC} {Q : xQ} {K : xK} {I : xI} {L : xL} {z : Nat} {b : Nat × Nat}  :
  xrun k_X9_takeFrom 0 C Q [27, 38, 49, 60, 62, 83, 98, 123, 134] K 13 0 [some (.ref 66), some (.ref 158), none] [] (xS I L (true, true, z)) b =
  C 294 [.ref 175, .ref 83] (xS (xw (xw I 66 9 (I 158 9)) 66 10 ((xw I 66 9 (I 158 9)) 158 10)) L (true, true, z)) (fun r τ => K 27 [some (.ref 66), some (.ref 158), none] (r.toList ++ []) τ b) := rfl
set_option maxRecDepth 100000 in
theorem b_X9_takeFrom_66_158_11_27 {C : xC} {Q : xQ} {K : xK} {I : xI} {L : xL} {z : Nat} {b : Nat × Nat}  :
  xrun k_X9_takeFrom 0 C Q [27, 38, 49, 60, 62, 83, 98, 123, 134] K 5 27 [some (.ref 66), some (.ref 158), none] [] (xS I L (true, true, z)) b =
  C 294 [.ref 176, .ref 84] (xS I L (true, true, z)) (fun r τ => K 38 [some (.ref 66), some (.ref 158), none] (r.toList ++ []) τ b) := rfl
set_option maxRecDepth 100000 in
theorem b_X9_takeFrom_66_158_11_38 {C : xC} {Q : xQ} {K : xK} {I : xI} {L : xL} {z : Nat} {b : Nat × Nat}  :
  xrun k_X9_takeFrom 0 C Q [27, 38, 49, 60, 62, 83, 98, 123, 134] K 5 38 [some (.ref 66), some (.ref 158), none] [] (xS I L (true, true, z)) b =
  C 294 [.ref 184, .ref 92] (xS I L (true, true, z)) (fun r τ => K 49 [some (.ref 66), some (.ref 158), none] (r.toList ++ []) τ b) := rfl
set_option maxRecDepth 100000 in
theorem b_X9_takeFrom_66_158_11_49 {C : xC} {Q : xQ} {K : xK} {I : xI} {L : xL} {z : Nat} {b : Nat × Nat}  :
  xrun k_X9_takeFrom 0 C Q [27, 38, 49, 60, 62, 83, 98, 123, 134] K 5 49 [some (.ref 66), some (.ref 158), none] [] (xS I L (true, true, z)) b =
  C 294 [.ref 185, .ref 93] (xS I L (true, true, z)) (fun r τ => K 60 [some (.ref 66), some (.ref 158), none] (r.toList ++ []) τ b) := rfl
set_option maxRecDepth 100000 in
theorem b_X9_takeFrom_66_158_11_60 {C : xC} {Q : xQ} {K : xK} {I : xI} {L : xL} {z : Nat} {b : Nat × Nat}  :
  xrun k_X9_takeFrom 0 C Q [27, 38, 49, 60, 62, 83, 98, 123, 134] K 2 60 [some (.ref 66), some (.ref 158), none] [] (xS I L (true, true, z)) b =
  K 62 [some (.ref 66), some (.ref 158), some (.int 0)] [] (xS I L (true, true, z)) b := rfl
set_option maxRecDepth 100000 in
theorem b_X9_takeFrom_66_158_11_62 {C : xC} {Q : xQ} {K : xK} {I : xI} {L : xL} {z : Nat} {b : Nat × Nat} {a2 : Int32} :
  xrun k_X9_takeFrom 0 C Q [27, 38, 49, 60, 62, 83, 98, 123, 134] K 12 62 [some (.ref 66), some (.ref 158), some (.int a2)] [] (xS I L (true, true, z)) b =
  (if a2 < 6 then (if xin a2 (6) then (if xin a2 (6) then C 294 [.ref (177 + 1 + Int32.toNatClampNeg a2), .ref (85 + 1 + Int32.toNatClampNeg a2)] (xS I L (true, true, z)) (fun r τ => K 83 [some (.ref 66), some (.ref 158), some (.int a2)] (r.toList ++ []) τ b) else False) else False) else C 294 [.ref 193, .ref 101] (xS (xw I 66 17 (I 158 17)) L (true, true, z)) (fun r τ => K 123 [some (.ref 66), some (.ref 158), some (.int a2)] (r.toList ++ []) τ b)) := rfl
set_option maxRecDepth 100000 in
theorem b_X9_takeFrom_66_158_11_83 {C : xC} {Q : xQ} {K : xK} {I : xI} {L : xL} {z : Nat} {b : Nat × Nat} {a2 : Int32} :
  xrun k_X9_takeFrom 0 C Q [27, 38, 49, 60, 62, 83, 98, 123, 134] K 9 83 [some (.ref 66), some (.ref 158), some (.int a2)] [] (xS I L (true, true, z)) b =
  (if xin a2 (6) then (if xin a2 (6) then C 294 [.ref (186 + 1 + Int32.toNatClampNeg a2), .ref (94 + 1 + Int32.toNatClampNeg a2)] (xS I L (true, true, z)) (fun r τ => K 98 [some (.ref 66), some (.ref 158), some (.int a2)] (r.toList ++ []) τ b) else False) else False) := rfl
set_option maxRecDepth 100000 in
theorem b_X9_takeFrom_66_158_11_123 {C : xC} {Q : xQ} {K : xK} {I : xI} {L : xL} {z : Nat} {b : Nat × Nat} {a2 : Int32} :
  xrun k_X9_takeFrom 0 C Q [27, 38, 49, 60, 62, 83, 98, 123, 134] K 5 123 [some (.ref 66), some (.ref 158), some (.int a2)] [] (xS I L (true, true, z)) b =
  C 294 [.ref 194, .ref 102] (xS I L (true, true, z)) (fun r τ => K 134 [some (.ref 66), some (.ref 158), some (.int a2)] (r.toList ++ []) τ b) := rfl
set_option maxRecDepth 100000 in
theorem b_X9_takeFrom_66_158_11_98 {C : xC} {Q : xQ} {K : xK} {I : xI} {L : xL} {z : Nat} {b : Nat × Nat} {a2 : Int32} :
  xrun k_X9_takeFrom 0 C Q [27, 38, 49, 60, 62, 83, 98, 123, 134] K 2 98 [some (.ref 66), some (.ref 158), some (.int a2)] [] (xS I L (true, true, z)) b =
  K 62 [some (.ref 66), some (.ref 158), some (.int (a2 + 1))] [] (xS I L (true, true, z)) b := rfl
set_option maxRecDepth 100000 in
theorem b_X9_takeFrom_66_158_11_134 {C : xC} {Q : xQ} {K : xK} {I : xI} {L : xL} {z : Nat} {b : Nat × Nat} {a2 : Int32} :
  xrun k_X9_takeFrom 0 C Q [27, 38, 49, 60, 62, 83, 98, 123, 134] K 5 134 [some (.ref 66), some (.ref 158), some (.int a2)] [] (xS I L (true, true, z)) b =
  Q none (xS (xw I 66 20 (I 158 20)) L (true, true, z)) := rfl
def h_X6_takeAllOf_19_10_0 (d : Nat) (F : xQ) (b : Nat × Nat) (I : xI) (L : xL) (z : Bool × Bool × Nat)  : Prop := xEX k_X6_takeAllOf 0 (xCd d) F 0 [some (.ref 19), some (.ref 10)] [] (xS I L z) b
set_option maxRecDepth 100000 in
theorem g_X6_takeAllOf_19_10_0 {d : Nat} {F : xQ} {b : Nat × Nat} {I : xI} {L : xL} {z : Bool × Bool × Nat}  (hd : 0 ≤ d) (h : F none (xS (xw (xcpy (xcpy (xcpy (xcpy (xcpy (xcpy (xcpy (xcpy (xw (xw (xw (xw (xw I 19 0 (I 10 0)) 19 1 ((xw I 19 0 (I 10 0)) 10 1)) 19 2 ((xw (xw I 19 0 (I 10 0)) 19 1 ((xw I 19 0 (I 10 0)) 10 1)) 10 2)) 19 3 ((xw (xw (xw I 19 0 (I 10 0)) 19 1 ((xw I 19 0 (I 10 0)) 10 1)) 19 2 ((xw (xw I 19 0 (I 10 0)) 19 1 ((xw I 19 0 (I 10 0)) 10 1)) 10 2)) 10 3)) 19 4 ((xw (xw (xw (xw I 19 0 (I 10 0)) 19 1 ((xw I 19 0 (I 10 0)) 10 1)) 19 2 ((xw (xw I 19 0 (I 10 0)) 19 1 ((xw I 19 0 (I 10 0)) 10 1)) 10 2)) 19 3 ((xw (xw (xw I 19 0 (I 10 0)) 19 1 ((xw I 19 0 (I 10 0)) 10 1)) 19 2 ((xw (xw I 19 0 (I 10 0)) 19 1 ((xw I 19 0 (I 10 0)) 10 1)) 10 2)) 10 3)) 10 4)) (11) (Int32.toNatClampNeg 0) (20) (Int32.toNatClampNeg 0) (Int32.toNatClampNeg 6)) (12) (Int32.toNatClampNeg 0) (21) (Int32.toNatClampNeg 0) (Int32.toNatClampNeg 6)) (13) (Int32.toNatClampNeg 0) (22) (Int32.toNatClampNeg 0) (Int32.toNatClampNeg 18)) (14) (Int32.toNatClampNeg 0) (23) (Int32.toNatClampNeg 0) (Int32.toNatClampNeg 6)) (15) (Int32.toNatClampNeg 0) (24) (Int32.toNatClampNeg 0) (Int32.toNatClampNeg 6)) (16) (Int32.toNatClampNeg 0) (25) (Int32.toNatClampNeg 0) (Int32.toNatClampNeg 24)) (17) (Int32.toNatClampNeg 0) (26) (Int32.toNatClampNeg 0) (Int32.toNatClampNeg 4)) (18) (Int32.toNatClampNeg 0) (27) (Int32.toNatClampNeg 0) (Int32.toNatClampNeg 4)) 19 5 1) L z)) : h_X6_takeAllOf_19_10_0 d F b I L z  :=
  (xgo b_X6_takeAllOf_19_10_0 (xgo b_X6_takeAllOf_19_10_55 (xgo b_X6_takeAllOf_19_10_70 (xgo b_X6_takeAllOf_19_10_85 (xgo b_X6_takeAllOf_19_10_100 (xgo b_X6_takeAllOf_19_10_115 (xgo b_X6_takeAllOf_19_10_130 (xgo b_X6_takeAllOf_19_10_144 (xgo b_X6_takeAllOf_19_10_158 h)))))))))
theorem c_X6_takeAllOf_19_10 {d : Nat} {F : xQ} {I : xI} {L : xL} {z : Bool × Bool × Nat}  (h : h_X6_takeAllOf_19_10_0 d F (0, 0) I L z ) : xCd (d + 1) 81 [.ref 19, .ref 10] (xS I L z) F :=
  xin_ (T := k_X6_takeAllOf) (rt := 0) (ls := [some (.ref 19), some (.ref 10)]) rfl rfl rfl rfl h
def h_X6_takeAllOf_28_10_0 (d : Nat) (F : xQ) (b : Nat × Nat) (I : xI) (L : xL) (z : Bool × Bool × Nat)  : Prop := xEX k_X6_takeAllOf 0 (xCd d) F 0 [some (.ref 28), some (.ref 10)] [] (xS I L z) b
set_option maxRecDepth 100000 in
theorem g_X6_takeAllOf_28_10_0 {d : Nat} {F : xQ} {b : Nat × Nat} {I : xI} {L : xL} {z : Bool × Bool × Nat}  (hd : 0 ≤ d) (h : F none (xS (xw (xcpy (xcpy (xcpy (xcpy (xcpy (xcpy (xcpy (xcpy (xw (xw (xw (xw (xw I 28 0 (I 10 0)) 28 1 ((xw I 28 0 (I 10 0)) 10 1)) 28 2 ((xw (xw I 28 0 (I 10 0)) 28 1 ((xw I 28 0 (I 10 0)) 10 1)) 10 2)) 28 3 ((xw (xw (xw I 28 0 (I 10 0)) 28 1 ((xw I 28 0 (I 10 0)) 10 1)) 28 2 ((xw (xw I 28 0 (I 10 0)) 28 1 ((xw I 28 0 (I 10 0)) 10 1)) 10 2)) 10 3)) 28 4 ((xw (xw (xw (xw I 28 0 (I 10 0)) 28 1 ((xw I 28 0 (I 10 0)) 10 1)) 28 2 ((xw (xw I 28 0 (I 10 0)) 28 1 ((xw I 28 0 (I 10 0)) 10 1)) 10 2)) 28 3 ((xw (xw (xw I 28 0 (I 10 0)) 28 1 ((xw I 28 0 (I 10 0)) 10 1)) 28 2 ((xw (xw I 28 0 (I 10 0)) 28 1 ((xw I 28 0 (I 10 0)) 10 1)) 10 2)) 10 3)) 10 4)) (11) (Int32.toNatClampNeg 0) (29) (Int32.toNatClampNeg 0) (Int32.toNatClampNeg 6)) (12) (Int32.toNatClampNeg 0) (30) (Int32.toNatClampNeg 0) (Int32.toNatClampNeg 6)) (13) (Int32.toNatClampNeg 0) (31) (Int32.toNatClampNeg 0) (Int32.toNatClampNeg 18)) (14) (Int32.toNatClampNeg 0) (32) (Int32.toNatClampNeg 0) (Int32.toNatClampNeg 6)) (15) (Int32.toNatClampNeg 0) (33) (Int32.toNatClampNeg 0) (Int32.toNatClampNeg 6)) (16) (Int32.toNatClampNeg 0) (34) (Int32.toNatClampNeg 0) (Int32.toNatClampNeg 24)) (17) (Int32.toNatClampNeg 0) (35) (Int32.toNatClampNeg 0) (Int32.toNatClampNeg 4)) (18) (Int32.toNatClampNeg 0) (36) (Int32.toNatClampNeg 0) (Int32.toNatClampNeg 4)) 28 5 1) L z)) : h_X6_takeAllOf_28_10_0 d F b I L z  :=
  (xgo b_X6_takeAllOf_28_10_0 (xgo b_X6_takeAllOf_28_10_55 (xgo b_X6_takeAllOf_28_10_70 (xgo b_X6_takeAllOf_28_10_85 (xgo b_X6_takeAllOf_28_10_100 (xgo b_X6_takeAllOf_28_10_115 (xgo b_X6_takeAllOf_28_10_130 (xgo b_X6_takeAllOf_28_10_144 (xgo b_X6_takeAllOf_28_10_158 h)))))))))
theorem c_X6_takeAllOf_28_10 {d : Nat} {F : xQ} {I : xI} {L : xL} {z : Bool × Bool × Nat}  (h : h_X6_takeAllOf_28_10_0 d F (0, 0) I L z ) : xCd (d + 1) 81 [.ref 28, .ref 10] (xS I L z) F :=
  xin_ (T := k_X6_takeAllOf) (rt := 0) (ls := [some (.ref 28), some (.ref 10)]) rfl rfl rfl rfl h
def h_X6_takeAllOf_10_28_0 (d : Nat) (F : xQ) (b : Nat × Nat) (I : xI) (L : xL) (z : Bool × Bool × Nat)  : Prop := xEX k_X6_takeAllOf 0 (xCd d) F 0 [some (.ref 10), some (.ref 28)] [] (xS I L z) b
set_option maxRecDepth 100000 in
theorem g_X6_takeAllOf_10_28_0 {d : Nat} {F : xQ} {b : Nat × Nat} {I : xI} {L : xL} {z : Bool × Bool × Nat}  (hd : 0 ≤ d) (h : F none (xS (xw (xcpy (xcpy (xcpy (xcpy (xcpy (xcpy (xcpy (xcpy (xw (xw (xw (xw (xw I 10 0 (I 28 0)) 10 1 ((xw I 10 0 (I 28 0)) 28 1)) 10 2 ((xw (xw I 10 0 (I 28 0)) 10 1 ((xw I 10 0 (I 28 0)) 28 1)) 28 2)) 10 3 ((xw (xw (xw I 10 0 (I 28 0)) 10 1 ((xw I 10 0 (I 28 0)) 28 1)) 10 2 ((xw (xw I 10 0 (I 28 0)) 10 1 ((xw I 10 0 (I 28 0)) 28 1)) 28 2)) 28 3)) 10 4 ((xw (xw (xw (xw I 10 0 (I 28 0)) 10 1 ((xw I 10 0 (I 28 0)) 28 1)) 10 2 ((xw (xw I 10 0 (I 28 0)) 10 1 ((xw I 10 0 (I 28 0)) 28 1)) 28 2)) 10 3 ((xw (xw (xw I 10 0 (I 28 0)) 10 1 ((xw I 10 0 (I 28 0)) 28 1)) 10 2 ((xw (xw I 10 0 (I 28 0)) 10 1 ((xw I 10 0 (I 28 0)) 28 1)) 28 2)) 28 3)) 28 4)) (29) (Int32.toNatClampNeg 0) (11) (Int32.toNatClampNeg 0) (Int32.toNatClampNeg 6)) (30) (Int32.toNatClampNeg 0) (12) (Int32.toNatClampNeg 0) (Int32.toNatClampNeg 6)) (31) (Int32.toNatClampNeg 0) (13) (Int32.toNatClampNeg 0) (Int32.toNatClampNeg 18)) (32) (Int32.toNatClampNeg 0) (14) (Int32.toNatClampNeg 0) (Int32.toNatClampNeg 6)) (33) (Int32.toNatClampNeg 0) (15) (Int32.toNatClampNeg 0) (Int32.toNatClampNeg 6)) (34) (Int32.toNatClampNeg 0) (16) (Int32.toNatClampNeg 0) (Int32.toNatClampNeg 24)) (35) (Int32.toNatClampNeg 0) (17) (Int32.toNatClampNeg 0) (Int32.toNatClampNeg 4)) (36) (Int32.toNatClampNeg 0) (18) (Int32.toNatClampNeg 0) (Int32.toNatClampNeg 4)) 10 5 1) L z)) : h_X6_takeAllOf_10_28_0 d F b I L z  :=
  (xgo b_X6_takeAllOf_10_28_0 (xgo b_X6_takeAllOf_10_28_55 (xgo b_X6_takeAllOf_10_28_70 (xgo b_X6_takeAllOf_10_28_85 (xgo b_X6_takeAllOf_10_28_100 (xgo b_X6_takeAllOf_10_28_115 (xgo b_X6_takeAllOf_10_28_130 (xgo b_X6_takeAllOf_10_28_144 (xgo b_X6_takeAllOf_10_28_158 h)))))))))
theorem c_X6_takeAllOf_10_28 {d : Nat} {F : xQ} {I : xI} {L : xL} {z : Bool × Bool × Nat}  (h : h_X6_takeAllOf_10_28_0 d F (0, 0) I L z ) : xCd (d + 1) 81 [.ref 10, .ref 28] (xS I L z) F :=
  xin_ (T := k_X6_takeAllOf) (rt := 0) (ls := [some (.ref 10), some (.ref 28)]) rfl rfl rfl rfl h
def h_X6_takeAllOf_10_19_0 (d : Nat) (F : xQ) (b : Nat × Nat) (I : xI) (L : xL) (z : Bool × Bool × Nat)  : Prop := xEX k_X6_takeAllOf 0 (xCd d) F 0 [some (.ref 10), some (.ref 19)] [] (xS I L z) b
set_option maxRecDepth 100000 in
theorem g_X6_takeAllOf_10_19_0 {d : Nat} {F : xQ} {b : Nat × Nat} {I : xI} {L : xL} {z : Bool × Bool × Nat}  (hd : 0 ≤ d) (h : F none (xS (xw (xcpy (xcpy (xcpy (xcpy (xcpy (xcpy (xcpy (xcpy (xw (xw (xw (xw (xw I 10 0 (I 19 0)) 10 1 ((xw I 10 0 (I 19 0)) 19 1)) 10 2 ((xw (xw I 10 0 (I 19 0)) 10 1 ((xw I 10 0 (I 19 0)) 19 1)) 19 2)) 10 3 ((xw (xw (xw I 10 0 (I 19 0)) 10 1 ((xw I 10 0 (I 19 0)) 19 1)) 10 2 ((xw (xw I 10 0 (I 19 0)) 10 1 ((xw I 10 0 (I 19 0)) 19 1)) 19 2)) 19 3)) 10 4 ((xw (xw (xw (xw I 10 0 (I 19 0)) 10 1 ((xw I 10 0 (I 19 0)) 19 1)) 10 2 ((xw (xw I 10 0 (I 19 0)) 10 1 ((xw I 10 0 (I 19 0)) 19 1)) 19 2)) 10 3 ((xw (xw (xw I 10 0 (I 19 0)) 10 1 ((xw I 10 0 (I 19 0)) 19 1)) 10 2 ((xw (xw I 10 0 (I 19 0)) 10 1 ((xw I 10 0 (I 19 0)) 19 1)) 19 2)) 19 3)) 19 4)) (20) (Int32.toNatClampNeg 0) (11) (Int32.toNatClampNeg 0) (Int32.toNatClampNeg 6)) (21) (Int32.toNatClampNeg 0) (12) (Int32.toNatClampNeg 0) (Int32.toNatClampNeg 6)) (22) (Int32.toNatClampNeg 0) (13) (Int32.toNatClampNeg 0) (Int32.toNatClampNeg 18)) (23) (Int32.toNatClampNeg 0) (14) (Int32.toNatClampNeg 0) (Int32.toNatClampNeg 6)) (24) (Int32.toNatClampNeg 0) (15) (Int32.toNatClampNeg 0) (Int32.toNatClampNeg 6)) (25) (Int32.toNatClampNeg 0) (16) (Int32.toNatClampNeg 0) (Int32.toNatClampNeg 24)) (26) (Int32.toNatClampNeg 0) (17) (Int32.toNatClampNeg 0) (Int32.toNatClampNeg 4)) (27) (Int32.toNatClampNeg 0) (18) (Int32.toNatClampNeg 0) (Int32.toNatClampNeg 4)) 10 5 1) L z)) : h_X6_takeAllOf_10_19_0 d F b I L z  :=
  (xgo b_X6_takeAllOf_10_19_0 (xgo b_X6_takeAllOf_10_19_55 (xgo b_X6_takeAllOf_10_19_70 (xgo b_X6_takeAllOf_10_19_85 (xgo b_X6_takeAllOf_10_19_100 (xgo b_X6_takeAllOf_10_19_115 (xgo b_X6_takeAllOf_10_19_130 (xgo b_X6_takeAllOf_10_19_144 (xgo b_X6_takeAllOf_10_19_158 h)))))))))
theorem c_X6_takeAllOf_10_19 {d : Nat} {F : xQ} {I : xI} {L : xL} {z : Bool × Bool × Nat}  (h : h_X6_takeAllOf_10_19_0 d F (0, 0) I L z ) : xCd (d + 1) 81 [.ref 10, .ref 19] (xS I L z) F :=
  xin_ (T := k_X6_takeAllOf) (rt := 0) (ls := [some (.ref 10), some (.ref 19)]) rfl rfl rfl rfl h
def h_X9_takeFrom_112_66_10_0 (d : Nat) (F : xQ) (b : Nat × Nat) (I : xI) (L : xL) (z : Nat)  : Prop := xEX k_X9_takeFrom 0 (xCd d) F 0 [some (.ref 112), some (.ref 66), none] [] (xS I L (true, false, z)) b
def h_X9_takeFrom_112_66_10_27 (d : Nat) (F : xQ) (b : Nat × Nat) (I : xI) (L : xL) (z : Nat)  : Prop := xEX k_X9_takeFrom 0 (xCd d) F 27 [some (.ref 112), some (.ref 66), none] [] (xS I L (true, false, z)) b
def h_X9_takeFrom_112_66_10_38 (d : Nat) (F : xQ) (b : Nat × Nat) (I : xI) (L : xL) (z : Nat)  : Prop := xEX k_X9_takeFrom 0 (xCd d) F 38 [some (.ref 112), some (.ref 66), none] [] (xS I L (true, false, z)) b
def h_X9_takeFrom_112_66_10_49 (d : Nat) (F : xQ) (b : Nat × Nat) (I : xI) (L : xL) (z : Nat)  : Prop := xEX k_X9_takeFrom 0 (xCd d) F 49 [some (.ref 112), some (.ref 66), none] [] (xS I L (true, false, z)) b
def h_X9_takeFrom_112_66_10_60 (d : Nat) (F : xQ) (b : Nat × Nat) (I : xI) (L : xL) (z : Nat)  : Prop := xEX k_X9_takeFrom 0 (xCd d) F 60 [some (.ref 112), some (.ref 66), none] [] (xS I L (true, false, z)) b
def h_X9_takeFrom_112_66_10_62 (d : Nat) (F : xQ) (b : Nat × Nat) (I : xI) (L : xL) (z : Nat) (a2 : Int32) : Prop := xEX k_X9_takeFrom 0 (xCd d) F 62 [some (.ref 112), some (.ref 66), some (.int a2)] [] (xS I L (true, false, z)) b
def h_X9_takeFrom_112_66_10_83 (d : Nat) (F : xQ) (b : Nat × Nat) (I : xI) (L : xL) (z : Nat) (a2 : Int32) : Prop := xEX k_X9_takeFrom 0 (xCd d) F 83 [some (.ref 112), some (.ref 66), some (.int a2)] [] (xS I L (true, false, z)) b
def h_X9_takeFrom_112_66_10_98 (d : Nat) (F : xQ) (b : Nat × Nat) (I : xI) (L : xL) (z : Nat) (a2 : Int32) : Prop := xEX k_X9_takeFrom 0 (xCd d) F 98 [some (.ref 112), some (.ref 66), some (.int a2)] [] (xS I L (true, false, z)) b
def h_X9_takeFrom_112_66_10_123 (d : Nat) (F : xQ) (b : Nat × Nat) (I : xI) (L : xL) (z : Nat) (a2 : Int32) : Prop := xEX k_X9_takeFrom 0 (xCd d) F 123 [some (.ref 112), some (.ref 66), some (.int a2)] [] (xS I L (true, false, z)) b
def h_X9_takeFrom_112_66_10_134 (d : Nat) (F : xQ) (b : Nat × Nat) (I : xI) (L : xL) (z : Nat) (a2 : Int32) : Prop := xEX k_X9_takeFrom 0 (xCd d) F 134 [some (.ref 112), some (.ref 66), some (.int a2)] [] (xS I L (true, false, z)) b
set_option maxRecDepth 100000 in
theorem g_X9_takeFrom_112_66_10_0 {d : Nat} {F : xQ} {b : Nat × Nat} {I : xI} {L : xL} {z : Nat}  (hd : 0 ≤ d) (h : xCd d 294 [.ref 83, .ref 129] (xS (xw (xw I 112 9 (I 66 9)) 112 10 ((xw I 112 9 (I 66 9)) 66 10)) L (true, false, z)) (fun r τ => xEX k_X9_takeFrom 0 (xCd d) F 27 [some (.ref 112), some (.ref 66), none] (r.toList ++ []) τ b)) : h_X9_takeFrom_112_66_10_0 d F b I L z  :=
  (xgo b_X9_takeFrom_112_66_10_0 h)
theorem c_X9_takeFrom_112_66_10 {d : Nat} {F : xQ} {I : xI} {L : xL} {z : Nat}  (h : h_X9_takeFrom_112_66_10_0 d F (0, 0) I L z ) : xCd (d + 1) 295 [.ref 112, .ref 66] (xS I L (true, false, z)) F :=
  xin_ (T := k_X9_takeFrom) (rt := 0) (ls := [some (.ref 112), some (.ref 66), none]) rfl rfl rfl rfl h
set_option maxRecDepth 100000 in
theorem g_X9_takeFrom_112_66_10_27 {d : Nat} {F : xQ} {b : Nat × Nat} {I : xI} {L : xL} {z : Nat}  (hd : 0 ≤ d) (h : xCd d 294 [.ref 84, .ref 130] (xS I L (true, false, z)) (fun r τ => xEX k_X9_takeFrom 0 (xCd d) F 38 [some (.ref 112), some (.ref 66), none] (r.toList ++ []) τ b)) : h_X9_takeFrom_112_66_10_27 d F b I L z  :=
  (xgo b_X9_takeFrom_112_66_10_27 h)
set_option maxRecDepth 100000 in
theorem g_X9_takeFrom_112_66_10_38 {d : Nat} {F : xQ} {b : Nat × Nat} {I : xI} {L : xL} {z : Nat}  (hd : 0 ≤ d) (h : xCd d 294 [.ref 92, .ref 138] (xS I L (true, false, z)) (fun r τ => xEX k_X9_takeFrom 0 (xCd d) F 49 [some (.ref 112), some (.ref 66), none] (r.toList ++ []) τ b)) : h_X9_takeFrom_112_66_10_38 d F b I L z  :=
  (xgo b_X9_takeFrom_112_66_10_38 h)
set_option maxRecDepth 100000 in
theorem g_X9_takeFrom_112_66_10_49 {d : Nat} {F : xQ} {b : Nat × Nat} {I : xI} {L : xL} {z : Nat}  (hd : 0 ≤ d) (h : xCd d 294 [.ref 93, .ref 139] (xS I L (true, false, z)) (fun r τ => xEX k_X9_takeFrom 0 (xCd d) F 60 [some (.ref 112), some (.ref 66), none] (r.toList ++ []) τ b)) : h_X9_takeFrom_112_66_10_49 d F b I L z  :=
  (xgo b_X9_takeFrom_112_66_10_49 h)
set_option maxRecDepth 100000 in
theorem g_X9_takeFrom_112_66_10_60 {d : Nat} {F : xQ} {b : Nat × Nat} {I : xI} {L : xL} {z : Nat}  (hd : 0 ≤ d) (h : h_X9_takeFrom_112_66_10_62 d F b I L z 0) : h_X9_takeFrom_112_66_10_60 d F b I L z  :=
  (xgo b_X9_takeFrom_112_66_10_60 h)
set_option maxRecDepth 100000 in
theorem g_X9_takeFrom_112_66_10_62 {d : Nat} {F : xQ} {b : Nat × Nat} {I : xI} {L : xL} {z : Nat} {a2 : Int32} (hd : 0 ≤ d) (h : (if a2 < 6 then (if xin a2 (6) then xCd d 294 [.ref (85 + 1 + Int32.toNatClampNeg a2), .ref (131 + 1 + Int32.toNatClampNeg a2)] (xS I L (true, false, z)) (fun r τ => xEX k_X9_takeFrom 0 (xCd d) F 83 [some (.ref 112), some (.ref 66), some (.int a2)] (r.toList ++ []) τ b) else False) else xCd d 294 [.ref 101, .ref 147] (xS (xw I 112 17 (I 66 17)) L (true, false, z)) (fun r τ => xEX k_X9_takeFrom 0 (xCd d) F 123 [some (.ref 112), some (.ref 66), some (.int a2)] (r.toList ++ []) τ b))) : h_X9_takeFrom_112_66_10_62 d F b I L z a2 :=
  (xgo b_X9_takeFrom_112_66_10_62 (xite (fun c729 h729 => (xite (fun c730 h730 => (xitT c730 h730)) (fun c730 h730 => h730) h729)) (fun c729 h729 => h729) h))
set_option maxRecDepth 100000 in
theorem g_X9_takeFrom_112_66_10_83 {d : Nat} {F : xQ} {b : Nat × Nat} {I : xI} {L : xL} {z : Nat} {a2 : Int32} (hd : 0 ≤ d) (h : (if xin a2 (6) then xCd d 294 [.ref (94 + 1 + Int32.toNatClampNeg a2), .ref (140 + 1 + Int32.toNatClampNeg a2)] (xS I L (true, false, z)) (fun r τ => xEX k_X9_takeFrom 0 (xCd d) F 98 [some (.ref 112), some (.ref 66), some (.int a2)] (r.toList ++ []) τ b) else False)) : h_X9_takeFrom_112_66_10_83 d F b I L z a2 :=
  (xgo b_X9_takeFrom_112_66_10_83 (xite (fun c731 h731 => (xitT c731 h731)) (fun c731 h731 => h731) h))
set_option maxRecDepth 100000 in
theorem g_X9_takeFrom_112_66_10_98 {d : Nat} {F : xQ} {b : Nat × Nat} {I : xI} {L : xL} {z : Nat} {a2 : Int32} (hd : 0 ≤ d) (h : h_X9_takeFrom_112_66_10_62 d F b I L z (a2 + 1)) : h_X9_takeFrom_112_66_10_98 d F b I L z a2 :=
  (xgo b_X9_takeFrom_112_66_10_98 h)
set_option maxRecDepth 100000 in
theorem g_X9_takeFrom_112_66_10_123 {d : Nat} {F : xQ} {b : Nat × Nat} {I : xI} {L : xL} {z : Nat} {a2 : Int32} (hd : 0 ≤ d) (h : xCd d 294 [.ref 102, .ref 148] (xS I L (true, false, z)) (fun r τ => xEX k_X9_takeFrom 0 (xCd d) F 134 [some (.ref 112), some (.ref 66), some (.int a2)] (r.toList ++ []) τ b)) : h_X9_takeFrom_112_66_10_123 d F b I L z a2 :=
  (xgo b_X9_takeFrom_112_66_10_123 h)
set_option maxRecDepth 100000 in
theorem g_X9_takeFrom_112_66_10_134 {d : Nat} {F : xQ} {b : Nat × Nat} {I : xI} {L : xL} {z : Nat} {a2 : Int32} (hd : 0 ≤ d) (h : F none (xS (xw I 112 20 (I 66 20)) L (true, false, z))) : h_X9_takeFrom_112_66_10_134 d F b I L z a2 :=
  (xgo b_X9_takeFrom_112_66_10_134 h)
def h_X9_takeFrom_66_112_10_0 (d : Nat) (F : xQ) (b : Nat × Nat) (I : xI) (L : xL) (z : Nat)  : Prop := xEX k_X9_takeFrom 0 (xCd d) F 0 [some (.ref 66), some (.ref 112), none] [] (xS I L (true, false, z)) b
def h_X9_takeFrom_66_112_10_27 (d : Nat) (F : xQ) (b : Nat × Nat) (I : xI) (L : xL) (z : Nat)  : Prop := xEX k_X9_takeFrom 0 (xCd d) F 27 [some (.ref 66), some (.ref 112), none] [] (xS I L (true, false, z)) b
def h_X9_takeFrom_66_112_10_38 (d : Nat) (F : xQ) (b : Nat × Nat) (I : xI) (L : xL) (z : Nat)  : Prop := xEX k_X9_takeFrom 0 (xCd d) F 38 [some (.ref 66), some (.ref 112), none] [] (xS I L (true, false, z)) b
def h_X9_takeFrom_66_112_10_49 (d : Nat) (F : xQ) (b : Nat × Nat) (I : xI) (L : xL) (z : Nat)  : Prop := xEX k_X9_takeFrom 0 (xCd d) F 49 [some (.ref 66), some (.ref 112), none] [] (xS I L (true, false, z)) b
def h_X9_takeFrom_66_112_10_60 (d : Nat) (F : xQ) (b : Nat × Nat) (I : xI) (L : xL) (z : Nat)  : Prop := xEX k_X9_takeFrom 0 (xCd d) F 60 [some (.ref 66), some (.ref 112), none] [] (xS I L (true, false, z)) b
def h_X9_takeFrom_66_112_10_62 (d : Nat) (F : xQ) (b : Nat × Nat) (I : xI) (L : xL) (z : Nat) (a2 : Int32) : Prop := xEX k_X9_takeFrom 0 (xCd d) F 62 [some (.ref 66), some (.ref 112), some (.int a2)] [] (xS I L (true, false, z)) b
def h_X9_takeFrom_66_112_10_83 (d : Nat) (F : xQ) (b : Nat × Nat) (I : xI) (L : xL) (z : Nat) (a2 : Int32) : Prop := xEX k_X9_takeFrom 0 (xCd d) F 83 [some (.ref 66), some (.ref 112), some (.int a2)] [] (xS I L (true, false, z)) b
def h_X9_takeFrom_66_112_10_98 (d : Nat) (F : xQ) (b : Nat × Nat) (I : xI) (L : xL) (z : Nat) (a2 : Int32) : Prop := xEX k_X9_takeFrom 0 (xCd d) F 98 [some (.ref 66), some (.ref 112), some (.int a2)] [] (xS I L (true, false, z)) b
def h_X9_takeFrom_66_112_10_123 (d : Nat) (F : xQ) (b : Nat × Nat) (I : xI) (L : xL) (z : Nat) (a2 : Int32) : Prop := xEX k_X9_takeFrom 0 (xCd d) F 123 [some (.ref 66), some (.ref 112), some (.int a2)] [] (xS I L (true, false, z)) b
def h_X9_takeFrom_66_112_10_134 (d : Nat) (F : xQ) (b : Nat × Nat) (I : xI) (L : xL) (z : Nat) (a2 : Int32) : Prop := xEX k_X9_takeFrom 0 (xCd d) F 134 [some (.ref 66), some (.ref 112), some (.int a2)] [] (xS I L (true, false, z)) b
set_option maxRecDepth 100000 in
theorem g_X9_takeFrom_66_112_10_0 {d : Nat} {F : xQ} {b : Nat × Nat} {I : xI} {L : xL} {z : Nat}  (hd : 0 ≤ d) (h : xCd d 294 [.ref 129, .ref 83] (xS (xw (xw I 66 9 (I 112 9)) 66 10 ((xw I 66 9 (I 112 9)) 112 10)) L (true, false, z)) (fun r τ => xEX k_X9_takeFrom 0 (xCd d) F 27 [some (.ref 66), some (.ref 112), none] (r.toList ++ []) τ b)) : h_X9_takeFrom_66_112_10_0 d F b I L z  :=
  (xgo b_X9_takeFrom_66_112_10_0 h)
theorem c_X9_takeFrom_66_112_10 {d : Nat} {F : xQ} {I : xI} {L : xL} {z : Nat}  (h : h_X9_takeFrom_66_112_10_0 d F (0, 0) I L z ) : xCd (d + 1) 295 [.ref 66, .ref 112] (xS I L (true, false, z)) F :=
  xin_ (T := k_X9_takeFrom) (rt := 0) (ls := [some (.ref 66), some (.ref 112), none]) rfl rfl rfl rfl h
set_option maxRecDepth 100000 in
theorem g_X9_takeFrom_66_112_10_27 {d : Nat} {F : xQ} {b : Nat × Nat} {I : xI} {L : xL} {z : Nat}  (hd : 0 ≤ d) (h : xCd d 294 [.ref 130, .ref 84] (xS I L (true, false, z)) (fun r τ => xEX k_X9_takeFrom 0 (xCd d) F 38 [some (.ref 66), some (.ref 112), none] (r.toList ++ []) τ b)) : h_X9_takeFrom_66_112_10_27 d F b I L z  :=
  (xgo b_X9_takeFrom_66_112_10_27 h)
set_option maxRecDepth 100000 in
theorem g_X9_takeFrom_66_112_10_38 {d : Nat} {F : xQ} {b : Nat × Nat} {I : xI} {L : xL} {z : Nat}  (hd : 0 ≤ d) (h : xCd d 294 [.ref 138, .ref 92] (xS I L (true, false, z)) (fun r τ => xEX k_X9_takeFrom 0 (xCd d) F 49 [some (.ref 66), some (.ref 112), none] (r.toList ++ []) τ b)) : h_X9_takeFrom_66_112_10_38 d F b I L z  :=
  (xgo b_X9_takeFrom_66_112_10_38 h)
set_option maxRecDepth 100000 in
theorem g_X9_takeFrom_66_112_10_49 {d : Nat} {F : xQ} {b : Nat × Nat} {I : xI} {L : xL} {z : Nat}  (hd : 0 ≤ d) (h : xCd d 294 [.ref 139, .ref 93] (xS I L (true, false, z)) (fun r τ => xEX k_X9_takeFrom 0 (xCd d) F 60 [some (.ref 66), some (.ref 112), none] (r.toList ++ []) τ b)) : h_X9_takeFrom_66_112_10_49 d F b I L z  :=
  (xgo b_X9_takeFrom_66_112_10_49 h)
set_option maxRecDepth 100000 in
theorem g_X9_takeFrom_66_112_10_60 {d : Nat} {F : xQ} {b : Nat × Nat} {I : xI} {L : xL} {z : Nat}  (hd : 0 ≤ d) (h : h_X9_takeFrom_66_112_10_62 d F b I L z 0) : h_X9_takeFrom_66_112_10_60 d F b I L z  :=
  (xgo b_X9_takeFrom_66_112_10_60 h)
set_option maxRecDepth 100000 in
theorem g_X9_takeFrom_66_112_10_62 {d : Nat} {F : xQ} {b : Nat × Nat} {I : xI} {L : xL} {z : Nat} {a2 : Int32} (hd : 0 ≤ d) (h : (if a2 < 6 then (if xin a2 (6) then xCd d 294 [.ref (131 + 1 + Int32.toNatClampNeg a2), .ref (85 + 1 + Int32.toNatClampNeg a2)] (xS I L (true, false, z)) (fun r τ => xEX k_X9_takeFrom 0 (xCd d) F 83 [some (.ref 66), some (.ref 112), some (.int a2)] (r.toList ++ []) τ b) else False) else xCd d 294 [.ref 147, .ref 101] (xS (xw I 66 17 (I 112 17)) L (true, false, z)) (fun r τ => xEX k_X9_takeFrom 0 (xCd d) F 123 [some (.ref 66), some (.ref 112), some (.int a2)] (r.toList ++ []) τ b))) : h_X9_takeFrom_66_112_10_62 d F b I L z a2 :=
  (xgo b_X9_takeFrom_66_112_10_62 (xite (fun c743 h743 => (xite (fun c744 h744 => (xitT c744 h744)) (fun c744 h744 => h744) h743)) (fun c743 h743 => h743) h))
set_option maxRecDepth 100000 in
theorem g_X9_takeFrom_66_112_10_83 {d : Nat} {F : xQ} {b : Nat × Nat} {I : xI} {L : xL} {z : Nat} {a2 : Int32} (hd : 0 ≤ d) (h : (if xin a2 (6) then xCd d 294 [.ref (140 + 1 + Int32.toNatClampNeg a2), .ref (94 + 1 + Int32.toNatClampNeg a2)] (xS I L (true, false, z)) (fun r τ => xEX k_X9_takeFrom 0 (xCd d) F 98 [some (.ref 66), some (.ref 112), some (.int a2)] (r.toList ++ []) τ b) else False)) : h_X9_takeFrom_66_112_10_83 d F b I L z a2 :=
  (xgo b_X9_takeFrom_66_112_10_83 (xite (fun c745 h745 => (xitT c745 h745)) (fun c745 h745 => h745) h))
set_option maxRecDepth 100000 in
theorem g_X9_takeFrom_66_112_10_98 {d : Nat} {F : xQ} {b : Nat × Nat} {I : xI} {L : xL} {z : Nat} {a2 : Int32} (hd : 0 ≤ d) (h : h_X9_takeFrom_66_112_10_62 d F b I L z (a2 + 1)) : h_X9_takeFrom_66_112_10_98 d F b I L z a2 :=
  (xgo b_X9_takeFrom_66_112_10_98 h)
set_option maxRecDepth 100000 in
theorem g_X9_takeFrom_66_112_10_123 {d : Nat} {F : xQ} {b : Nat × Nat} {I : xI} {L : xL} {z : Nat} {a2 : Int32} (hd : 0 ≤ d) (h : xCd d 294 [.ref 148, .ref 102] (xS I L (true, false, z)) (fun r τ => xEX k_X9_takeFrom 0 (xCd d) F 134 [some (.ref 66), some (.ref 112), some (.int a2)] (r.toList ++ []) τ b)) : h_X9_takeFrom_66_112_10_123 d F b I L z a2 :=
  (xgo b_X9_takeFrom_66_112_10_123 h)
set_option maxRecDepth 100000 in
theorem g_X9_takeFrom_66_112_10_134 {d : Nat} {F : xQ} {b : Nat × Nat} {I : xI} {L : xL} {z : Nat} {a2 : Int32} (hd : 0 ≤ d) (h : F none (xS (xw I 66 20 (I 112 20)) L (true, false, z))) : h_X9_takeFrom_66_112_10_134 d F b I L z a2 :=
  (xgo b_X9_takeFrom_66_112_10_134 h)
def h_X9_takeFrom_158_66_01_0 (d : Nat) (F : xQ) (b : Nat × Nat) (I : xI) (L : xL) (z : Nat)  : Prop := xEX k_X9_takeFrom 0 (xCd d) F 0 [some (.ref 158), some (.ref 66), none] [] (xS I L (false, true, z)) b
def h_X9_takeFrom_158_66_01_27 (d : Nat) (F : xQ) (b : Nat × Nat) (I : xI) (L : xL) (z : Nat)  : Prop := xEX k_X9_takeFrom 0 (xCd d) F 27 [some (.ref 158), some (.ref 66), none] [] (xS I L (false, true, z)) b
def h_X9_takeFrom_158_66_01_38 (d : Nat) (F : xQ) (b : Nat × Nat) (I : xI) (L : xL) (z : Nat)  : Prop := xEX k_X9_takeFrom 0 (xCd d) F 38 [some (.ref 158), some (.ref 66), none] [] (xS I L (false, true, z)) b
def h_X9_takeFrom_158_66_01_49 (d : Nat) (F : xQ) (b : Nat × Nat) (I : xI) (L : xL) (z : Nat)  : Prop := xEX k_X9_takeFrom 0 (xCd d) F 49 [some (.ref 158), some (.ref 66), none] [] (xS I L (false, true, z)) b
def h_X9_takeFrom_158_66_01_60 (d : Nat) (F : xQ) (b : Nat × Nat) (I : xI) (L : xL) (z : Nat)  : Prop := xEX k_X9_takeFrom 0 (xCd d) F 60 [some (.ref 158), some (.ref 66), none] [] (xS I L (false, true, z)) b
def h_X9_takeFrom_158_66_01_62 (d : Nat) (F : xQ) (b : Nat × Nat) (I : xI) (L : xL) (z : Nat) (a2 : Int32) : Prop := xEX k_X9_takeFrom 0 (xCd d) F 62 [some (.ref 158), some (.ref 66), some (.int a2)] [] (xS I L (false, true, z)) b
def h_X9_takeFrom_158_66_01_83 (d : Nat) (F : xQ) (b : Nat × Nat) (I : xI) (L : xL) (z : Nat) (a2 : Int32) : Prop := xEX k_X9_takeFrom 0 (xCd d) F 83 [some (.ref 158), some (.ref 66), some (.int a2)] [] (xS I L (false, true, z)) b
def h_X9_takeFrom_158_66_01_98 (d : Nat) (F : xQ) (b : Nat × Nat) (I : xI) (L : xL) (z : Nat) (a2 : Int32) : Prop := xEX k_X9_takeFrom 0 (xCd d) F 98 [some (.ref 158), some (.ref 66), some (.int a2)] [] (xS I L (false, true, z)) b
def h_X9_takeFrom_158_66_01_123 (d : Nat) (F : xQ) (b : Nat × Nat) (I : xI) (L : xL) (z : Nat) (a2 : Int32) : Prop := xEX k_X9_takeFrom 0 (xCd d) F 123 [some (.ref 158), some (.ref 66), some (.int a2)] [] (xS I L (false, true, z)) b
def h_X9_takeFrom_158_66_01_134 (d : Nat) (F : xQ) (b : Nat × Nat) (I : xI) (L : xL) (z : Nat) (a2 : Int32) : Prop := xEX k_X9_takeFrom 0 (xCd d) F 134 [some (.ref 158), some (.ref 66), some (.int a2)] [] (xS I L (false, true, z)) b
set_option maxRecDepth 100000 in
theorem g_X9_takeFrom_158_66_01_0 {d : Nat} {F : xQ} {b : Nat × Nat} {I : xI} {L : xL} {z : Nat}  (hd : 0 ≤ d) (h : xCd d 294 [.ref 83, .ref 175] (xS (xw (xw I 158 9 (I 66 9)) 158 10 ((xw I 158 9 (I 66 9)) 66 10)) L (false, true, z)) (fun r τ => xEX k_X9_takeFrom 0 (xCd d) F 27 [some (.ref 158), some (.ref 66), none] (r.toList ++ []) τ b)) : h_X9_takeFrom_158_66_01_0 d F b I L z  :=
  (xgo b_X9_takeFrom_158_66_01_0 h)
theorem c_X9_takeFrom_158_66_01 {d : Nat} {F : xQ} {I : xI} {L : xL} {z : Nat}  (h : h_X9_takeFrom_158_66_01_0 d F (0, 0) I L z ) : xCd (d + 1) 295 [.ref 158, .ref 66] (xS I L (false, true, z)) F :=
  xin_ (T := k_X9_takeFrom) (rt := 0) (ls := [some (.ref 158), some (.ref 66), none]) rfl rfl rfl rfl h
set_option maxRecDepth 100000 in
theorem g_X9_takeFrom_158_66_01_27 {d : Nat} {F : xQ} {b : Nat × Nat} {I : xI} {L : xL} {z : Nat}  (hd : 0 ≤ d) (h : xCd d 294 [.ref 84, .ref 176] (xS I L (false, true, z)) (fun r τ => xEX k_X9_takeFrom 0 (xCd d) F 38 [some (.ref 158), some (.ref 66), none] (r.toList ++ []) τ b)) : h_X9_takeFrom_158_66_01_27 d F b I L z  :=
  (xgo b_X9_takeFrom_158_66_01_27 h)
set_option maxRecDepth 100000 in
theorem g_X9_takeFrom_158_66_01_38 {d : Nat} {F : xQ} {b : Nat × Nat} {I : xI} {L : xL} {z : Nat}  (hd : 0 ≤ d) (h : xCd d 294 [.ref 92, .ref 184] (xS I L (false, true, z)) (fun r τ => xEX k_X9_takeFrom 0 (xCd d) F 49 [some (.ref 158), some (.ref 66), none] (r.toList ++ []) τ b)) : h_X9_takeFrom_158_66_01_38 d F b I L z  :=
  (xgo b_X9_takeFrom_158_66_01_38 h)
set_option maxRecDepth 100000 in
theorem g_X9_takeFrom_158_66_01_49 {d : Nat} {F : xQ} {b : Nat × Nat} {I : xI} {L : xL} {z : Nat}  (hd : 0 ≤ d) (h : xCd d 294 [.ref 93, .ref 185] (xS I L (false, true, z)) (fun r τ => xEX k_X9_takeFrom 0 (xCd d) F 60 [some (.ref 158), some (.ref 66), none] (r.toList ++ []) τ b)) : h_X9_takeFrom_158_66_01_49 d F b I L z  :=
  (xgo b_X9_takeFrom_158_66_01_49 h)
set_option maxRecDepth 100000 in
theorem g_X9_takeFrom_158_66_01_60 {d : Nat} {F : xQ} {b : Nat × Nat} {I : xI} {L : xL} {z : Nat}  (hd : 0 ≤ d) (h : h_X9_takeFrom_158_66_01_62 d F b I L z 0) : h_X9_takeFrom_158_66_01_60 d F b I L z  :=
  (xgo b_X9_takeFrom_158_66_01_60 h)
set_option maxRecDepth 100000 in
theorem g_X9_takeFrom_158_66_01_62 {d : Nat} {F : xQ} {b : Nat × Nat} {I : xI} {L : xL} {z : Nat} {a2 : Int32} (hd : 0 ≤ d) (h : (if a2 < 6 then (if xin a2 (6) then xCd d 294 [.ref (85 + 1 + Int32.toNatClampNeg a2), .ref (177 + 1 + Int32.toNatClampNeg a2)] (xS I L (false, true, z)) (fun r τ => xEX k_X9_takeFrom 0 (xCd d) F 83 [some (.ref 158), some (.ref 66), some (.int a2)] (r.toList ++ []) τ b) else False) else xCd d 294 [.ref 101, .ref 193] (xS (xw I 158 17 (I 66 17)) L (false, true, z)) (fun r τ => xEX k_X9_takeFrom 0 (xCd d) F 123 [some (.ref 158), some (.ref 66), some (.int a2)] (r.toList ++ []) τ b))) : h_X9_takeFrom_158_66_01_62 d F b I L z a2 :=
  (xgo b_X9_takeFrom_158_66_01_62 (xite (fun c757 h757 => (xite (fun c758 h758 => (xitT c758 h758)) (fun c758 h758 => h758) h757)) (fun c757 h757 => h757) h))
set_option maxRecDepth 100000 in
theorem g_X9_takeFrom_158_66_01_83 {d : Nat} {F : xQ} {b : Nat × Nat} {I : xI} {L : xL} {z : Nat} {a2 : Int32} (hd : 0 ≤ d) (h : (if xin a2 (6) then xCd d 294 [.ref (94 + 1 + Int32.toNatClampNeg a2), .ref (186 + 1 + Int32.toNatClampNeg a2)] (xS I L (false, true, z)) (fun r τ => xEX k_X9_takeFrom 0 (xCd d) F 98 [some (.ref 158), some (.ref 66), some (.int a2)] (r.toList ++ []) τ b) else False)) : h_X9_takeFrom_158_66_01_83 d F b I L z a2 :=
  (xgo b_X9_takeFrom_158_66_01_83 (xite (fun c759 h759 => (xitT c759 h759)) (fun c759 h759 => h759) h))
set_option maxRecDepth 100000 in
theorem g_X9_takeFrom_158_66_01_98 {d : Nat} {F : xQ} {b : Nat × Nat} {I : xI} {L : xL} {z : Nat} {a2 : Int32} (hd : 0 ≤ d) (h : h_X9_takeFrom_158_66_01_62 d F b I L z (a2 + 1)) : h_X9_takeFrom_158_66_01_98 d F b I L z a2 :=
  (xgo b_X9_takeFrom_158_66_01_98 h)
set_option maxRecDepth 100000 in
theorem g_X9_takeFrom_158_66_01_123 {d : Nat} {F : xQ} {b : Nat × Nat} {I : xI} {L : xL} {z : Nat} {a2 : Int32} (hd : 0 ≤ d) (h : xCd d 294 [.ref 102, .ref 194] (xS I L (false, true, z)) (fun r τ => xEX k_X9_takeFrom 0 (xCd d) F 134 [some (.ref 158), some (.ref 66), some (.int a2)] (r.toList ++ []) τ b)) : h_X9_takeFrom_158_66_01_123 d F b I L z a2 :=
  (xgo b_X9_takeFrom_158_66_01_123 h)
set_option maxRecDepth 100000 in
theorem g_X9_takeFrom_158_66_01_134 {d : Nat} {F : xQ} {b : Nat × Nat} {I : xI} {L : xL} {z : Nat} {a2 : Int32} (hd : 0 ≤ d) (h : F none (xS (xw I 158 20 (I 66 20)) L (false, true, z))) : h_X9_takeFrom_158_66_01_134 d F b I L z a2 :=
  (xgo b_X9_takeFrom_158_66_01_134 h)
def h_X9_takeFrom_66_158_01_0 (d : Nat) (F : xQ) (b : Nat × Nat) (I : xI) (L : xL) (z : Nat)  : Prop := xEX k_X9_takeFrom 0 (xCd d) F 0 [some (.ref 66), some (.ref 158), none] [] (xS I L (false, true, z)) b
def h_X9_takeFrom_66_158_01_27 (d : Nat) (F : xQ) (b : Nat × Nat) (I : xI) (L : xL) (z : Nat)  : Prop := xEX k_X9_takeFrom 0 (xCd d) F 27 [some (.ref 66), some (.ref 158), none] [] (xS I L (false, true, z)) b
def h_X9_takeFrom_66_158_01_38 (d : Nat) (F : xQ) (b : Nat × Nat) (I : xI) (L : xL) (z : Nat)  : Prop := xEX k_X9_takeFrom 0 (xCd d) F 38 [some (.ref 66), some (.ref 158), none] [] (xS I L (false, true, z)) b
def h_X9_takeFrom_66_158_01_49 (d : Nat) (F : xQ) (b : Nat × Nat) (I : xI) (L : xL) (z : Nat)  : Prop := xEX k_X9_takeFrom 0 (xCd d) F 49 [some (.ref 66), some (.ref 158), none] [] (xS I L (false, true, z)) b
def h_X9_takeFrom_66_158_01_60 (d : Nat) (F : xQ) (b : Nat × Nat) (I : xI) (L : xL) (z : Nat)  : Prop := xEX k_X9_takeFrom 0 (xCd d) F 60 [some (.ref 66), some (.ref 158), none] [] (xS I L (false, true, z)) b
def h_X9_takeFrom_66_158_01_62 (d : Nat) (F : xQ) (b : Nat × Nat) (I : xI) (L : xL) (z : Nat) (a2 : Int32) : Prop := xEX k_X9_takeFrom 0 (xCd d) F 62 [some (.ref 66), some (.ref 158), some (.int a2)] [] (xS I L (false, true, z)) b
def h_X9_takeFrom_66_158_01_83 (d : Nat) (F : xQ) (b : Nat × Nat) (I : xI) (L : xL) (z : Nat) (a2 : Int32) : Prop := xEX k_X9_takeFrom 0 (xCd d) F 83 [some (.ref 66), some (.ref 158), some (.int a2)] [] (xS I L (false, true, z)) b
def h_X9_takeFrom_66_158_01_98 (d : Nat) (F : xQ) (b : Nat × Nat) (I : xI) (L : xL) (z : Nat) (a2 : Int32) : Prop := xEX k_X9_takeFrom 0 (xCd d) F 98 [some (.ref 66), some (.ref 158), some (.int a2)] [] (xS I L (false, true, z)) b
def h_X9_takeFrom_66_158_01_123 (d : Nat) (F : xQ) (b : Nat × Nat) (I : xI) (L : xL) (z : Nat) (a2 : Int32) : Prop := xEX k_X9_takeFrom 0 (xCd d) F 123 [some (.ref 66), some (.ref 158), some (.int a2)] [] (xS I L (false, true, z)) b
def h_X9_takeFrom_66_158_01_134 (d : Nat) (F : xQ) (b : Nat × Nat) (I : xI) (L : xL) (z : Nat) (a2 : Int32) : Prop := xEX k_X9_takeFrom 0 (xCd d) F 134 [some (.ref 66), some (.ref 158), some (.int a2)] [] (xS I L (false, true, z)) b
set_option maxRecDepth 100000 in
theorem g_X9_takeFrom_66_158_01_0 {d : Nat} {F : xQ} {b : Nat × Nat} {I : xI} {L : xL} {z : Nat}  (hd : 0 ≤ d) (h : xCd d 294 [.ref 175, .ref 83] (xS (xw (xw I 66 9 (I 158 9)) 66 10 ((xw I 66 9 (I 158 9)) 158 10)) L (false, true, z)) (fun r τ => xEX k_X9_takeFrom 0 (xCd d) F 27 [some (.ref 66), some (.ref 158), none] (r.toList ++ []) τ b)) : h_X9_takeFrom_66_158_01_0 d F b I L z  :=
  (xgo b_X9_takeFrom_66_158_01_0 h)
theorem c_X9_takeFrom_66_158_01 {d : Nat} {F : xQ} {I : xI} {L : xL} {z : Nat}  (h : h_X9_takeFrom_66_158_01_0 d F (0, 0) I L z ) : xCd (d + 1) 295 [.ref 66, .ref 158] (xS I L (false, true, z)) F :=
  xin_ (T := k_X9_takeFrom) (rt := 0) (ls := [some (.ref 66), some (.ref 158), none]) rfl rfl rfl rfl h
set_option maxRecDepth 100000 in
theorem g_X9_takeFrom_66_158_01_27 {d : Nat} {F : xQ} {b : Nat × Nat} {I : xI} {L : xL} {z : Nat}  (hd : 0 ≤ d) (h : xCd d 294 [.ref 176, .ref 84] (xS I L (false, true, z)) (fun r τ => xEX k_X9_takeFrom 0 (xCd d) F 38 [some (.ref 66), some (.ref 158), none] (r.toList ++ []) τ b)) : h_X9_takeFrom_66_158_01_27 d F b I L z  :=
  (xgo b_X9_takeFrom_66_158_01_27 h)
set_option maxRecDepth 100000 in
theorem g_X9_takeFrom_66_158_01_38 {d : Nat} {F : xQ} {b : Nat × Nat} {I : xI} {L : xL} {z : Nat}  (hd : 0 ≤ d) (h : xCd d 294 [.ref 184, .ref 92] (xS I L (false, true, z)) (fun r τ => xEX k_X9_takeFrom 0 (xCd d) F 49 [some (.ref 66), some (.ref 158), none] (r.toList ++ []) τ b)) : h_X9_takeFrom_66_158_01_38 d F b I L z  :=
  (xgo b_X9_takeFrom_66_158_01_38 h)
set_option maxRecDepth 100000 in
theorem g_X9_takeFrom_66_158_01_49 {d : Nat} {F : xQ} {b : Nat × Nat} {I : xI} {L : xL} {z : Nat}  (hd : 0 ≤ d) (h : xCd d 294 [.ref 185, .ref 93] (xS I L (false, true, z)) (fun r τ => xEX k_X9_takeFrom 0 (xCd d) F 60 [some (.ref 66), some (.ref 158), none] (r.toList ++ []) τ b)) : h_X9_takeFrom_66_158_01_49 d F b I L z  :=
  (xgo b_X9_takeFrom_66_158_01_49 h)
set_option maxRecDepth 100000 in
theorem g_X9_takeFrom_66_158_01_60 {d : Nat} {F : xQ} {b : Nat × Nat} {I : xI} {L : xL} {z : Nat}  (hd : 0 ≤ d) (h : h_X9_takeFrom_66_158_01_62 d F b I L z 0) : h_X9_takeFrom_66_158_01_60 d F b I L z  :=
  (xgo b_X9_takeFrom_66_158_01_60 h)
set_option maxRecDepth 100000 in
theorem g_X9_takeFrom_66_158_01_62 {d : Nat} {F : xQ} {b : Nat × Nat} {I : xI} {L : xL} {z : Nat} {a2 : Int32} (hd : 0 ≤ d) (h : (if a2 < 6 then (if xin a2 (6) then xCd d 294 [.ref (177 + 1 + Int32.toNatClampNeg a2), .ref (85 + 1 + Int32.toNatClampNeg a2)] (xS I L (false, true, z)) (fun r τ => xEX k_X9_takeFrom 0 (xCd d) F 83 [some (.ref 66), some (.ref 158), some (.int a2)] (r.toList ++ []) τ b) else False) else xCd d 294 [.ref 193, .ref 101] (xS (xw I 66 17 (I 158 17)) L (false, true, z)) (fun r τ => xEX k_X9_takeFrom 0 (xCd d) F 123 [some (.ref 66), some (.ref 158), some (.int a2)] (r.toList ++ []) τ b))) : h_X9_takeFrom_66_158_01_62 d F b I L z a2 :=
  (xgo b_X9_takeFrom_66_158_01_62 (xite (fun c771 h771 => (xite (fun c772 h772 => (xitT c772 h772)) (fun c772 h772 => h772) h771)) (fun c771 h771 => h771) h))
set_option maxRecDepth 100000 in
theorem g_X9_takeFrom_66_158_01_83 {d : Nat} {F : xQ} {b : Nat × Nat} {I : xI} {L : xL} {z : Nat} {a2 : Int32} (hd : 0 ≤ d) (h : (if xin a2 (6) then xCd d 294 [.ref (186 + 1 + Int32.toNatClampNeg a2), .ref (94 + 1 + Int32.toNatClampNeg a2)] (xS I L (false, true, z)) (fun r τ => xEX k_X9_takeFrom 0 (xCd d) F 98 [some (.ref 66), some (.ref 158), some (.int a2)] (r.toList ++ []) τ b) else False)) : h_X9_takeFrom_66_158_01_83 d F b I L z a2 :=
  (xgo b_X9_takeFrom_66_158_01_83 (xite (fun c773 h773 => (xitT c773 h773)) (fun c773 h773 => h773) h))
set_option maxRecDepth 100000 in
theorem g_X9_takeFrom_66_158_01_98 {d : Nat} {F : xQ} {b : Nat × Nat} {I : xI} {L : xL} {z : Nat} {a2 : Int32} (hd : 0 ≤ d) (h : h_X9_takeFrom_66_158_01_62 d F b I L z (a2 + 1)) : h_X9_takeFrom_66_158_01_98 d F b I L z a2 :=
  (xgo b_X9_takeFrom_66_158_01_98 h)
set_option maxRecDepth 100000 in
theorem g_X9_takeFrom_66_158_01_123 {d : Nat} {F : xQ} {b : Nat × Nat} {I : xI} {L : xL} {z : Nat} {a2 : Int32} (hd : 0 ≤ d) (h : xCd d 294 [.ref 194, .ref 102] (xS I L (false, true, z)) (fun r τ => xEX k_X9_takeFrom 0 (xCd d) F 134 [some (.ref 66), some (.ref 158), some (.int a2)] (r.toList ++ []) τ b)) : h_X9_takeFrom_66_158_01_123 d F b I L z a2 :=
  (xgo b_X9_takeFrom_66_158_01_123 h)
set_option maxRecDepth 100000 in
theorem g_X9_takeFrom_66_158_01_134 {d : Nat} {F : xQ} {b : Nat × Nat} {I : xI} {L : xL} {z : Nat} {a2 : Int32} (hd : 0 ≤ d) (h : F none (xS (xw I 66 20 (I 158 20)) L (false, true, z))) : h_X9_takeFrom_66_158_01_134 d F b I L z a2 :=
  (xgo b_X9_takeFrom_66_158_01_134 h)
def h_X9_takeFrom_112_66_11_0 (d : Nat) (F : xQ) (b : Nat × Nat) (I : xI) (L : xL) (z : Nat)  : Prop := xEX k_X9_takeFrom 0 (xCd d) F 0 [some (.ref 112), some (.ref 66), none] [] (xS I L (true, true, z)) b
def h_X9_takeFrom_112_66_11_27 (d : Nat) (F : xQ) (b : Nat × Nat) (I : xI) (L : xL) (z : Nat)  : Prop := xEX k_X9_takeFrom 0 (xCd d) F 27 [some (.ref 112), some (.ref 66), none] [] (xS I L (true, true, z)) b
def h_X9_takeFrom_112_66_11_38 (d : Nat) (F : xQ) (b : Nat × Nat) (I : xI) (L : xL) (z : Nat)  : Prop := xEX k_X9_takeFrom 0 (xCd d) F 38 [some (.ref 112), some (.ref 66), none] [] (xS I L (true, true, z)) b
def h_X9_takeFrom_112_66_11_49 (d : Nat) (F : xQ) (b : Nat × Nat) (I : xI) (L : xL) (z : Nat)  : Prop := xEX k_X9_takeFrom 0 (xCd d) F 49 [some (.ref 112), some (.ref 66), none] [] (xS I L (true, true, z)) b
def h_X9_takeFrom_112_66_11_60 (d : Nat) (F : xQ) (b : Nat × Nat) (I : xI) (L : xL) (z : Nat)  : Prop := xEX k_X9_takeFrom 0 (xCd d) F 60 [some (.ref 112), some (.ref 66), none] [] (xS I L (true, true, z)) b
def h_X9_takeFrom_112_66_11_62 (d : Nat) (F : xQ) (b : Nat × Nat) (I : xI) (L : xL) (z : Nat) (a2 : Int32) : Prop := xEX k_X9_takeFrom 0 (xCd d) F 62 [some (.ref 112), some (.ref 66), some (.int a2)] [] (xS I L (true, true, z)) b
def h_X9_takeFrom_112_66_11_83 (d : Nat) (F : xQ) (b : Nat × Nat) (I : xI) (L : xL) (z : Nat) (a2 : Int32) : Prop := xEX k_X9_takeFrom 0 (xCd d) F 83 [some (.ref 112), some (.ref 66), some (.int a2)] [] (xS I L (true, true, z)) b
def h_X9_takeFrom_112_66_11_98 (d : Nat) (F : xQ) (b : Nat × Nat) (I : xI) (L : xL) (z : Nat) (a2 : Int32) : Prop := xEX k_X9_takeFrom 0 (xCd d) F 98 [some (.ref 112), some (.ref 66), some (.int a2)] [] (xS I L (true, true, z)) b
def h_X9_takeFrom_112_66_11_123 (d : Nat) (F : xQ) (b : Nat × Nat) (I : xI) (L : xL) (z : Nat) (a2 : Int32) : Prop := xEX k_X9_takeFrom 0 (xCd d) F 123 [some (.ref 112), some (.ref 66), some (.int a2)] [] (xS I L (true, true, z)) b
def h_X9_takeFrom_112_66_11_134 (d : Nat) (F : xQ) (b : Nat × Nat) (I : xI) (L : xL) (z : Nat) (a2 : Int32) : Prop := xEX k_X9_takeFrom 0 (xCd d) F 134 [some (.ref 112), some (.ref 66), some (.int a2)] [] (xS I L (true, true, z)) b
set_option maxRecDepth 100000 in
theorem g_X9_takeFrom_112_66_11_0 {d : Nat} {F : xQ} {b : Nat × Nat} {I : xI} {L : xL} {z : Nat}  (hd : 0 ≤ d) (h : xCd d 294 [.ref 83, .ref 129] (xS (xw (xw I 112 9 (I 66 9)) 112 10 ((xw I 112 9 (I 66 9)) 66 10)) L (true, true, z)) (fun r τ => xEX k_X9_takeFrom 0 (xCd d) F 27 [some (.ref 112), some (.ref 66), none] (r.toList ++ []) τ b)) : h_X9_takeFrom_112_66_11_0 d F b I L z  :=
  (xgo b_X9_takeFrom_112_66_11_0 h)
theorem c_X9_takeFrom_112_66_11 {d : Nat} {F : xQ} {I : xI} {L : xL} {z : Nat}  (h : h_X9_takeFrom_112_66_11_0 d F (0, 0) I L z ) : xCd (d + 1) 295 [.ref 112, .ref 66] (xS I L (true, true, z)) F :=
  xin_ (T := k_X9_takeFrom) (rt := 0) (ls := [some (.ref 112), some (.ref 66), none]) rfl rfl rfl rfl h
set_option maxRecDepth 100000 in
theorem g_X9_takeFrom_112_66_11_27 {d : Nat} {F : xQ} {b : Nat × Nat} {I : xI} {L : xL} {z : Nat}  (hd : 0 ≤ d) (h : xCd d 294 [.ref 84, .ref 130] (xS I L (true, true, z)) (fun r τ => xEX k_X9_takeFrom 0 (xCd d) F 38 [some (.ref 112), some (.ref 66), none] (r.toList ++ []) τ b)) : h_X9_takeFrom_112_66_11_27 d F b I L z  :=
  (xgo b_X9_takeFrom_112_66_11_27 h)
set_option maxRecDepth 100000 in
theorem g_X9_takeFrom_112_66_11_38 {d : Nat} {F : xQ} {b : Nat × Nat} {I : xI} {L : xL} {z : Nat}  (hd : 0 ≤ d) (h : xCd d 294 [.ref 92, .ref 138] (xS I L (true, true, z)) (fun r τ => xEX k_X9_takeFrom 0 (xCd d) F 49 [some (.ref 112), some (.ref 66), none] (r.toList ++ []) τ b)) : h_X9_takeFrom_112_66_11_38 d F b I L z  :=
  (xgo b_X9_takeFrom_112_66_11_38 h)
set_option maxRecDepth 100000 in
theorem g_X9_takeFrom_112_66_11_49 {d : Nat} {F : xQ} {b : Nat × Nat} {I : xI} {L : xL} {z : Nat}  (hd : 0 ≤ d) (h : xCd d 294 [.ref 93, .ref 139] (xS I L (true, true, z)) (fun r τ => xEX k_X9_takeFrom 0 (xCd d) F 60 [some (.ref 112), some (.ref 66), none] (r.toList ++ []) τ b)) : h_X9_takeFrom_112_66_11_49 d F b I L z  :=
  (xgo b_X9_takeFrom_112_66_11_49 h)
set_option maxRecDepth 100000 in
theorem g_X9_takeFrom_112_66_11_60 {d : Nat} {F : xQ} {b : Nat × Nat} {I : xI} {L : xL} {z : Nat}  (hd : 0 ≤ d) (h : h_X9_takeFrom_112_66_11_62 d F b I L z 0) : h_X9_takeFrom_112_66_11_60 d F b I L z  :=
  (xgo b_X9_takeFrom_112_66_11_60 h)
set_option maxRecDepth 100000 in
theorem g_X9_takeFrom_112_66_11_62 {d : Nat} {F : xQ} {b : Nat × Nat} {I : xI} {L : xL} {z : Nat} {a2 : Int32} (hd : 0 ≤ d) (h : (if a2 < 6 then (if xin a2 (6) then xCd d 294 [.ref (85 + 1 + Int32.toNatClampNeg a2), .ref (131 + 1 + Int32.toNatClampNeg a2)] (xS I L (true, true, z)) (fun r τ => xEX k_X9_takeFrom 0 (xCd d) F 83 [some (.ref 112), some (.ref 66), some (.int a2)] (r.toList ++ []) τ b) else False) else xCd d 294 [.ref 101, .ref 147] (xS (xw I 112 17 (I 66 17)) L (true, true, z)) (fun r τ => xEX k_X9_takeFrom 0 (xCd d) F 123 [some (.ref 112), some (.ref 66), some (.int a2)] (r.toList ++ []) τ b))) : h_X9_takeFrom_112_66_11_62 d F b I L z a2 :=
  (xgo b_X9_takeFrom_112_66_11_62 (xite (fun c785 h785 => (xite (fun c786 h786 => (xitT c786 h786)) (fun c786 h786 => h786) h785)) (fun c785 h785 => h785) h))
set_option maxRecDepth 100000 in
theorem g_X9_takeFrom_112_66_11_83 {d : Nat} {F : xQ} {b : Nat × Nat} {I : xI} {L : xL} {z : Nat} {a2 : Int32} (hd : 0 ≤ d) (h : (if xin a2 (6) then xCd d 294 [.ref (94 + 1 + Int32.toNatClampNeg a2), .ref (140 + 1 + Int32.toNatClampNeg a2)] (xS I L (true, true, z)) (fun r τ => xEX k_X9_takeFrom 0 (xCd d) F 98 [some (.ref 112), some (.ref 66), some (.int a2)] (r.toList ++ []) τ b) else False)) : h_X9_takeFrom_112_66_11_83 d F b I L z a2 :=
  (xgo b_X9_takeFrom_112_66_11_83 (xite (fun c787 h787 => (xitT c787 h787)) (fun c787 h787 => h787) h))
set_option maxRecDepth 100000 in
theorem g_X9_takeFrom_112_66_11_98 {d : Nat} {F : xQ} {b : Nat × Nat} {I : xI} {L : xL} {z : Nat} {a2 : Int32} (hd : 0 ≤ d) (h : h_X9_takeFrom_112_66_11_62 d F b I L z (a2 + 1)) : h_X9_takeFrom_112_66_11_98 d F b I L z a2 :=
  (xgo b_X9_takeFrom_112_66_11_98 h)
set_option maxRecDepth 100000 in
theorem g_X9_takeFrom_112_66_11_123 {d : Nat} {F : xQ} {b : Nat × Nat} {I : xI} {L : xL} {z : Nat} {a2 : Int32} (hd : 0 ≤ d) (h : xCd d 294 [.ref 102, .ref 148] (xS I L (true, true, z)) (fun r τ => xEX k_X9_takeFrom 0 (xCd d) F 134 [some (.ref 112), some (.ref 66), some (.int a2)] (r.toList ++ []) τ b)) : h_X9_takeFrom_112_66_11_123 d F b I L z a2 :=
  (xgo b_X9_takeFrom_112_66_11_123 h)
set_option maxRecDepth 100000 in
theorem g_X9_takeFrom_112_66_11_134 {d : Nat} {F : xQ} {b : Nat × Nat} {I : xI} {L : xL} {z : Nat} {a2 : Int32} (hd : 0 ≤ d) (h : F none (xS (xw I 112 20 (I 66 20)) L (true, true, z))) : h_X9_takeFrom_112_66_11_134 d F b I L z a2 :=
  (xgo b_X9_takeFrom_112_66_11_134 h)
def h_X9_takeFrom_66_112_11_0 (d : Nat) (F : xQ) (b : Nat × Nat) (I : xI) (L : xL) (z : Nat)  : Prop := xEX k_X9_takeFrom 0 (xCd d) F 0 [some (.ref 66), some (.ref 112), none] [] (xS I L (true, true, z)) b
def h_X9_takeFrom_66_112_11_27 (d : Nat) (F : xQ) (b : Nat × Nat) (I : xI) (L : xL) (z : Nat)  : Prop := xEX k_X9_takeFrom 0 (xCd d) F 27 [some (.ref 66), some (.ref 112), none] [] (xS I L (true, true, z)) b
def h_X9_takeFrom_66_112_11_38 (d : Nat) (F : xQ) (b : Nat × Nat) (I : xI) (L : xL) (z : Nat)  : Prop := xEX k_X9_takeFrom 0 (xCd d) F 38 [some (.ref 66), some (.ref 112), none] [] (xS I L (true, true, z)) b
def h_X9_takeFrom_66_112_11_49 (d : Nat) (F : xQ) (b : Nat × Nat) (I : xI) (L : xL) (z : Nat)  : Prop := xEX k_X9_takeFrom 0 (xCd d) F 49 [some (.ref 66), some (.ref 112), none] [] (xS I L (true, true, z)) b
def h_X9_takeFrom_66_112_11_60 (d : Nat) (F : xQ) (b : Nat × Nat) (I : xI) (L : xL) (z : Nat)  : Prop := xEX k_X9_takeFrom 0 (xCd d) F 60 [some (.ref 66), some (.ref 112), none] [] (xS I L (true, true, z)) b
def h_X9_takeFrom_66_112_11_62 (d : Nat) (F : xQ) (b : Nat × Nat) (I : xI) (L : xL) (z : Nat) (a2 : Int32) : Prop := xEX k_X9_takeFrom 0 (xCd d) F 62 [some (.ref 66), some (.ref 112), some (.int a2)] [] (xS I L (true, true, z)) b
def h_X9_takeFrom_66_112_11_83 (d : Nat) (F : xQ) (b : Nat × Nat) (I : xI) (L : xL) (z : Nat) (a2 : Int32) : Prop := xEX k_X9_takeFrom 0 (xCd d) F 83 [some (.ref 66), some (.ref 112), some (.int a2)] [] (xS I L (true, true, z)) b
def h_X9_takeFrom_66_112_11_98 (d : Nat) (F : xQ) (b : Nat × Nat) (I : xI) (L : xL) (z : Nat) (a2 : Int32) : Prop := xEX k_X9_takeFrom 0 (xCd d) F 98 [some (.ref 66), some (.ref 112), some (.int a2)] [] (xS I L (true, true, z)) b
def h_X9_takeFrom_66_112_11_123 (d : Nat) (F : xQ) (b : Nat × Nat) (I : xI) (L : xL) (z : Nat) (a2 : Int32) : Prop := xEX k_X9_takeFrom 0 (xCd d) F 123 [some (.ref 66), some (.ref 112), some (.int a2)] [] (xS I L (true, true, z)) b
def h_X9_takeFrom_66_112_11_134 (d : Nat) (F : xQ) (b : Nat × Nat) (I : xI) (L : xL) (z : Nat) (a2 : Int32) : Prop := xEX k_X9_takeFrom 0 (xCd d) F 134 [some (.ref 66), some (.ref 112), some (.int a2)] [] (xS I L (true, true, z)) b
set_option maxRecDepth 100000 in
theorem g_X9_takeFrom_66_112_11_0 {d : Nat} {F : xQ} {b : Nat × Nat} {I : xI} {L : xL} {z : Nat}  (hd : 0 ≤ d) (h : xCd d 294 [.ref 129, .ref 83] (xS (xw (xw I 66 9 (I 112 9)) 66 10 ((xw I 66 9 (I 112 9)) 112 10)) L (true, true, z)) (fun r τ => xEX k_X9_takeFrom 0 (xCd d) F 27 [some (.ref 66), some (.ref 112), none] (r.toList ++ []) τ b)) : h_X9_takeFrom_66_112_11_0 d F b I L z  :=
  (xgo b_X9_takeFrom_66_112_11_0 h)
theorem c_X9_takeFrom_66_112_11 {d : Nat} {F : xQ} {I : xI} {L : xL} {z : Nat}  (h : h_X9_takeFrom_66_112_11_0 d F (0, 0) I L z ) : xCd (d + 1) 295 [.ref 66, .ref 112] (xS I L (true, true, z)) F :=
  xin_ (T := k_X9_takeFrom) (rt := 0) (ls := [some (.ref 66), some (.ref 112), none]) rfl rfl rfl rfl h
set_option maxRecDepth 100000 in
theorem g_X9_takeFrom_66_112_11_27 {d : Nat} {F : xQ} {b : Nat × Nat} {I : xI} {L : xL} {z : Nat}  (hd : 0 ≤ d) (h : xCd d 294 [.ref 130, .ref 84] (xS I L (true, true, z)) (fun r τ => xEX k_X9_takeFrom 0 (xCd d) F 38 [some (.ref 66), some (.ref 112), none] (r.toList ++ []) τ b)) : h_X9_takeFrom_66_112_11_27 d F b I L z  :=
  (xgo b_X9_takeFrom_66_112_11_27 h)
set_option maxRecDepth 100000 in
theorem g_X9_takeFrom_66_112_11_38 {d : Nat} {F : xQ} {b : Nat × Nat} {I : xI} {L : xL} {z : Nat}  (hd : 0 ≤ d) (h : xCd d 294 [.ref 138, .ref 92] (xS I L (true, true, z)) (fun r τ => xEX k_X9_takeFrom 0 (xCd d) F 49 [some (.ref 66), some (.ref 112), none] (r.toList ++ []) τ b)) : h_X9_takeFrom_66_112_11_38 d F b I L z  :=
  (xgo b_X9_takeFrom_66_112_11_38 h)
set_option maxRecDepth 100000 in
theorem g_X9_takeFrom_66_112_11_49 {d : Nat} {F : xQ} {b : Nat × Nat} {I : xI} {L : xL} {z : Nat}  (hd : 0 ≤ d) (h : xCd d 294 [.ref 139, .ref 93] (xS I L (true, true, z)) (fun r τ => xEX k_X9_takeFrom 0 (xCd d) F 60 [some (.ref 66), some (.ref 112), none] (r.toList ++ []) τ b)) : h_X9_takeFrom_66_112_11_49 d F b I L z  :=
  (xgo b_X9_takeFrom_66_112_11_49 h)
set_option maxRecDepth 100000 in
theorem g_X9_takeFrom_66_112_11_60 {d : Nat} {F : xQ} {b : Nat × Nat} {I : xI} {L : xL} {z : Nat}  (hd : 0 ≤ d) (h : h_X9_takeFrom_66_112_11_62 d F b I L z 0) : h_X9_takeFrom_66_112_11_60 d F b I L z  :=
  (xgo b_X9_takeFrom_66_112_11_60 h)
set_option maxRecDepth 100000 in
theorem g_X9_takeFrom_66_112_11_62 {d : Nat} {F : xQ} {b : Nat × Nat} {I : xI} {L : xL} {z : Nat} {a2 : Int32} (hd : 0 ≤ d) (h : (if a2 < 6 then (if xin a2 (6) then xCd d 294 [.ref (131 + 1 + Int32.toNatClampNeg a2), .ref (85 + 1 + Int32.toNatClampNeg a2)] (xS I L (true, true, z)) (fun r τ => xEX k_X9_takeFrom 0 (xCd d) F 83 [some (.ref 66), some (.ref 112), some (.int a2)] (r.toList ++ []) τ b) else False) else xCd d 294 [.ref 147, .ref 101] (xS (xw I 66 17 (I 112 17)) L (true, true, z)) (fun r τ => xEX k_X9_takeFrom 0 (xCd d) F 123 [some (.ref 66), some (.ref 112), some (.int a2)] (r.toList ++ []) τ b))) : h_X9_takeFrom_66_112_11_62 d F b I L z a2 :=
  (xgo b_X9_takeFrom_66_112_11_62 (xite (fun c799 h799 => (xite (fun c800 h800 => (xitT c800 h800)) (fun c800 h800 => h800) h799)) (fun c799 h799 => h799) h))
set_option maxRecDepth 100000 in
theorem g_X9_takeFrom_66_112_11_83 {d : Nat} {F : xQ} {b : Nat × Nat} {I : xI} {L : xL} {z : Nat} {a2 : Int32} (hd : 0 ≤ d) (h : (if xin a2 (6) then xCd d 294 [.ref (140 + 1 + Int32.toNatClampNeg a2), .ref (94 + 1 + Int32.toNatClampNeg a2)] (xS I L (true, true, z)) (fun r τ => xEX k_X9_takeFrom 0 (xCd d) F 98 [some (.ref 66), some (.ref 112), some (.int a2)] (r.toList ++ []) τ b) else False)) : h_X9_takeFrom_66_112_11_83 d F b I L z a2 :=
  (xgo b_X9_takeFrom_66_112_11_83 (xite (fun c801 h801 => (xitT c801 h801)) (fun c801 h801 => h801) h))
set_option maxRecDepth 100000 in
theorem g_X9_takeFrom_66_112_11_98 {d : Nat} {F : xQ} {b : Nat × Nat} {I : xI} {L : xL} {z : Nat} {a2 : Int32} (hd : 0 ≤ d) (h : h_X9_takeFrom_66_112_11_62 d F b I L z (a2 + 1)) : h_X9_takeFrom_66_112_11_98 d F b I L z a2 :=
  (xgo b_X9_takeFrom_66_112_11_98 h)
set_option maxRecDepth 100000 in
theorem g_X9_takeFrom_66_112_11_123 {d : Nat} {F : xQ} {b : Nat × Nat} {I : xI} {L : xL} {z : Nat} {a2 : Int32} (hd : 0 ≤ d) (h : xCd d 294 [.ref 148, .ref 102] (xS I L (true, true, z)) (fun r τ => xEX k_X9_takeFrom 0 (xCd d) F 134 [some (.ref 66), some (.ref 112), some (.int a2)] (r.toList ++ []) τ b)) : h_X9_takeFrom_66_112_11_123 d F b I L z a2 :=
  (xgo b_X9_takeFrom_66_112_11_123 h)
set_option maxRecDepth 100000 in
theorem g_X9_takeFrom_66_112_11_134 {d : Nat} {F : xQ} {b : Nat × Nat} {I : xI} {L : xL} {z : Nat} {a2 : Int32} (hd : 0 ≤ d) (h : F none (xS (xw I 66 20 (I 112 20)) L (true, true, z))) : h_X9_takeFrom_66_112_11_134 d F b I L z a2 :=
  (xgo b_X9_takeFrom_66_112_11_134 h)
def h_X9_takeFrom_158_66_11_0 (d : Nat) (F : xQ) (b : Nat × Nat) (I : xI) (L : xL) (z : Nat)  : Prop := xEX k_X9_takeFrom 0 (xCd d) F 0 [some (.ref 158), some (.ref 66), none] [] (xS I L (true, true, z)) b
def h_X9_takeFrom_158_66_11_27 (d : Nat) (F : xQ) (b : Nat × Nat) (I : xI) (L : xL) (z : Nat)  : Prop := xEX k_X9_takeFrom 0 (xCd d) F 27 [some (.ref 158), some (.ref 66), none] [] (xS I L (true, true, z)) b
def h_X9_takeFrom_158_66_11_38 (d : Nat) (F : xQ) (b : Nat × Nat) (I : xI) (L : xL) (z : Nat)  : Prop := xEX k_X9_takeFrom 0 (xCd d) F 38 [some (.ref 158), some (.ref 66), none] [] (xS I L (true, true, z)) b
def h_X9_takeFrom_158_66_11_49 (d : Nat) (F : xQ) (b : Nat × Nat) (I : xI) (L : xL) (z : Nat)  : Prop := xEX k_X9_takeFrom 0 (xCd d) F 49 [some (.ref 158), some (.ref 66), none] [] (xS I L (true, true, z)) b
def h_X9_takeFrom_158_66_11_60 (d : Nat) (F : xQ) (b : Nat × Nat) (I : xI) (L : xL) (z : Nat)  : Prop := xEX k_X9_takeFrom 0 (xCd d) F 60 [some (.ref 158), some (.ref 66), none] [] (xS I L (true, true, z)) b
def h_X9_takeFrom_158_66_11_62 (d : Nat) (F : xQ) (b : Nat × Nat) (I : xI) (L : xL) (z : Nat) (a2 : Int32) : Prop := xEX k_X9_takeFrom 0 (xCd d) F 62 [some (.ref 158), some (.ref 66), some (.int a2)] [] (xS I L (true, true, z)) b
def h_X9_takeFrom_158_66_11_83 (d : Nat) (F : xQ) (b : Nat × Nat) (I : xI) (L : xL) (z : Nat) (a2 : Int32) : Prop := xEX k_X9_takeFrom 0 (xCd d) F 83 [some (.ref 158), some (.ref 66), some (.int a2)] [] (xS I L (true, true, z)) b
def h_X9_takeFrom_158_66_11_98 (d : Nat) (F : xQ) (b : Nat × Nat) (I : xI) (L : xL) (z : Nat) (a2 : Int32) : Prop := xEX k_X9_takeFrom 0 (xCd d) F 98 [some (.ref 158), some (.ref 66), some (.int a2)] [] (xS I L (true, true, z)) b
def h_X9_takeFrom_158_66_11_123 (d : Nat) (F : xQ) (b : Nat × Nat) (I : xI) (L : xL) (z : Nat) (a2 : Int32) : Prop := xEX k_X9_takeFrom 0 (xCd d) F 123 [some (.ref 158), some (.ref 66), some (.int a2)] [] (xS I L (true, true, z)) b
def h_X9_takeFrom_158_66_11_134 (d : Nat) (F : xQ) (b : Nat × Nat) (I : xI) (L : xL) (z : Nat) (a2 : Int32) : Prop := xEX k_X9_takeFrom 0 (xCd d) F 134 [some (.ref 158), some (.ref 66), some (.int a2)] [] (xS I L (true, true, z)) b
set_option maxRecDepth 100000 in
theorem g_X9_takeFrom_158_66_11_0 {d : Nat} {F : xQ} {b : Nat × Nat} {I : xI} {L : xL} {z : Nat}  (hd : 0 ≤ d) (h : xCd d 294 [.ref 83, .ref 175] (xS (xw (xw I 158 9 (I 66 9)) 158 10 ((xw I 158 9 (I 66 9)) 66 10)) L (true, true, z)) (fun r τ => xEX k_X9_takeFrom 0 (xCd d) F 27 [some (.ref 158), some (.ref 66), none] (r.toList ++ []) τ b)) : h_X9_takeFrom_158_66_11_0 d F b I L z  :=
  (xgo b_X9_takeFrom_158_66_11_0 h)
theorem c_X9_takeFrom_158_66_11 {d : Nat} {F : xQ} {I : xI} {L : xL} {z : Nat}  (h : h_X9_takeFrom_158_66_11_0 d F (0, 0) I L z ) : xCd (d + 1) 295 [.ref 158, .ref 66] (xS I L (true, true, z)) F :=
  xin_ (T := k_X9_takeFrom) (rt := 0) (ls := [some (.ref 158), some (.ref 66), none]) rfl rfl rfl rfl h
set_option maxRecDepth 100000 in
theorem g_X9_takeFrom_158_66_11_27 {d : Nat} {F : xQ} {b : Nat × Nat} {I : xI} {L : xL} {z : Nat}  (hd : 0 ≤ d) (h : xCd d 294 [.ref 84, .ref 176] (xS I L (true, true, z)) (fun r τ => xEX k_X9_takeFrom 0 (xCd d) F 38 [some (.ref 158), some (.ref 66), none] (r.toList ++ []) τ b)) : h_X9_takeFrom_158_66_11_27 d F b I L z  :=
  (xgo b_X9_takeFrom_158_66_11_27 h)
set_option maxRecDepth 100000 in
theorem g_X9_takeFrom_158_66_11_38 {d : Nat} {F : xQ} {b : Nat × Nat} {I : xI} {L : xL} {z : Nat}  (hd : 0 ≤ d) (h : xCd d 294 [.ref 92, .ref 184] (xS I L (true, true, z)) (fun r τ => xEX k_X9_takeFrom 0 (xCd d) F 49 [some (.ref 158), some (.ref 66), none] (r.toList ++ []) τ b)) : h_X9_takeFrom_158_66_11_38 d F b I L z  :=
  (xgo b_X9_takeFrom_158_66_11_38 h)
set_option maxRecDepth 100000 in
theorem g_X9_takeFrom_158_66_11_49 {d : Nat} {F : xQ} {b : Nat × Nat} {I : xI} {L : xL} {z : Nat}  (hd : 0 ≤ d) (h : xCd d 294 [.ref 93, .ref 185] (xS I L (true, true, z)) (fun r τ => xEX k_X9_takeFrom 0 (xCd d) F 60 [some (.ref 158), some (.ref 66), none] (r.toList ++ []) τ b)) : h_X9_takeFrom_158_66_11_49 d F b I L z  :=
  (xgo b_X9_takeFrom_158_66_11_49 h)
set_option maxRecDepth 100000 in
theorem g_X9_takeFrom_158_66_11_60 {d : Nat} {F : xQ} {b : Nat × Nat} {I : xI} {L : xL} {z : Nat}  (hd : 0 ≤ d) (h : h_X9_takeFrom_158_66_11_62 d F b I L z 0) : h_X9_takeFrom_158_66_11_60 d F b I L z  :=
  (xgo b_X9_takeFrom_158_66_11_60 h)
set_option maxRecDepth 100000 in
theorem g_X9_takeFrom_158_66_11_62 {d : Nat} {F : xQ} {b : Nat × Nat} {I : xI} {L : xL} {z : Nat} {a2 : Int32} (hd : 0 ≤ d) (h : (if a2 < 6 then (if xin a2 (6) then xCd d 294 [.ref (85 + 1 + Int32.toNatClampNeg a2), .ref (177 + 1 + Int32.toNatClampNeg a2)] (xS I L (true, true, z)) (fun r τ => xEX k_X9_takeFrom 0 (xCd d) F 83 [some (.ref 158), some (.ref 66), some (.int a2)] (r.toList ++ []) τ b) else False) else xCd d 294 [.ref 101, .ref 193] (xS (xw I 158 17 (I 66 17)) L (true, true, z)) (fun r τ => xEX k_X9_takeFrom 0 (xCd d) F 123 [some (.ref 158), some (.ref 66), some (.int a2)] (r.toList ++ []) τ b))) : h_X9_takeFrom_158_66_11_62 d F b I L z a2 :=
  (xgo b_X9_takeFrom_158_66_11_62 (xite (fun c813 h813 => (xite (fun c814 h814 => (xitT c814 h814)) (fun c814 h814 => h814) h813)) (fun c813 h813 => h813) h))
set_option maxRecDepth 100000 in
theorem g_X9_takeFrom_158_66_11_83 {d : Nat} {F : xQ} {b : Nat × Nat} {I : xI} {L : xL} {z : Nat} {a2 : Int32} (hd : 0 ≤ d) (h : (if xin a2 (6) then xCd d 294 [.ref (94 + 1 + Int32.toNatClampNeg a2), .ref (186 + 1 + Int32.toNatClampNeg a2)] (xS I L (true, true, z)) (fun r τ => xEX k_X9_takeFrom 0 (xCd d) F 98 [some (.ref 158), some (.ref 66), some (.int a2)] (r.toList ++ []) τ b) else False)) : h_X9_takeFrom_158_66_11_83 d F b I L z a2 :=
  (xgo b_X9_takeFrom_158_66_11_83 (xite (fun c815 h815 => (xitT c815 h815)) (fun c815 h815 => h815) h))
set_option maxRecDepth 100000 in
theorem g_X9_takeFrom_158_66_11_98 {d : Nat} {F : xQ} {b : Nat × Nat} {I : xI} {L : xL} {z : Nat} {a2 : Int32} (hd : 0 ≤ d) (h : h_X9_takeFrom_158_66_11_62 d F b I L z (a2 + 1)) : h_X9_takeFrom_158_66_11_98 d F b I L z a2 :=
  (xgo b_X9_takeFrom_158_66_11_98 h)
set_option maxRecDepth 100000 in
theorem g_X9_takeFrom_158_66_11_123 {d : Nat} {F : xQ} {b : Nat × Nat} {I : xI} {L : xL} {z : Nat} {a2 : Int32} (hd : 0 ≤ d) (h : xCd d 294 [.ref 102, .ref 194] (xS I L (true, true, z)) (fun r τ => xEX k_X9_takeFrom 0 (xCd d) F 134 [some (.ref 158), some (.ref 66), some (.int a2)] (r.toList ++ []) τ b)) : h_X9_takeFrom_158_66_11_123 d F b I L z a2 :=
  (xgo b_X9_takeFrom_158_66_11_123 h)
set_option maxRecDepth 100000 in
theorem g_X9_takeFrom_158_66_11_134 {d : Nat} {F : xQ} {b : Nat × Nat} {I : xI} {L : xL} {z : Nat} {a2 : Int32} (hd : 0 ≤ d) (h : F none (xS (xw I 158 20 (I 66 20)) L (true, true, z))) : h_X9_takeFrom_158_66_11_134 d F b I L z a2 :=
  (xgo b_X9_takeFrom_158_66_11_134 h)
def h_X9_takeFrom_66_158_11_0 (d : Nat) (F : xQ) (b : Nat × Nat) (I : xI) (L : xL) (z : Nat)  : Prop := xEX k_X9_takeFrom 0 (xCd d) F 0 [some (.ref 66), some (.ref 158), none] [] (xS I L (true, true, z)) b
def h_X9_takeFrom_66_158_11_27 (d : Nat) (F : xQ) (b : Nat × Nat) (I : xI) (L : xL) (z : Nat)  : Prop := xEX k_X9_takeFrom 0 (xCd d) F 27 [some (.ref 66), some (.ref 158), none] [] (xS I L (true, true, z)) b
def h_X9_takeFrom_66_158_11_38 (d : Nat) (F : xQ) (b : Nat × Nat) (I : xI) (L : xL) (z : Nat)  : Prop := xEX k_X9_takeFrom 0 (xCd d) F 38 [some (.ref 66), some (.ref 158), none] [] (xS I L (true, true, z)) b
def h_X9_takeFrom_66_158_11_49 (d : Nat) (F : xQ) (b : Nat × Nat) (I : xI) (L : xL) (z : Nat)  : Prop := xEX k_X9_takeFrom 0 (xCd d) F 49 [some (.ref 66), some (.ref 158), none] [] (xS I L (true, true, z)) b
def h_X9_takeFrom_66_158_11_60 (d : Nat) (F : xQ) (b : Nat × Nat) (I : xI) (L : xL) (z : Nat)  : Prop := xEX k_X9_takeFrom 0 (xCd d) F 60 [some (.ref 66), some (.ref 158), none] [] (xS I L (true, true, z)) b
def h_X9_takeFrom_66_158_11_62 (d : Nat) (F : xQ) (b : Nat × Nat) (I : xI) (L : xL) (z : Nat) (a2 : Int32) : Prop := xEX k_X9_takeFrom 0 (xCd d) F 62 [some (.ref 66), some (.ref 158), some (.int a2)] [] (xS I L (true, true, z)) b
def h_X9_takeFrom_66_158_11_83 (d : Nat) (F : xQ) (b : Nat × Nat) (I : xI) (L : xL) (z : Nat) (a2 : Int32) : Prop := xEX k_X9_takeFrom 0 (xCd d) F 83 [some (.ref 66), some (.ref 158), some (.int a2)] [] (xS I L (true, true, z)) b
def h_X9_takeFrom_66_158_11_98 (d : Nat) (F : xQ) (b : Nat × Nat) (I : xI) (L : xL) (z : Nat) (a2 : Int32) : Prop := xEX k_X9_takeFrom 0 (xCd d) F 98 [some (.ref 66), some (.ref 158), some (.int a2)] [] (xS I L (true, true, z)) b
def h_X9_takeFrom_66_158_11_123 (d : Nat) (F : xQ) (b : Nat × Nat) (I : xI) (L : xL) (z : Nat) (a2 : Int32) : Prop := xEX k_X9_takeFrom 0 (xCd d) F 123 [some (.ref 66), some (.ref 158), some (.int a2)] [] (xS I L (true, true, z)) b
def h_X9_takeFrom_66_158_11_134 (d : Nat) (F : xQ) (b : Nat × Nat) (I : xI) (L : xL) (z : Nat) (a2 : Int32) : Prop := xEX k_X9_takeFrom 0 (xCd d) F 134 [some (.ref 66), some (.ref 158), some (.int a2)] [] (xS I L (true, true, z)) b
set_option maxRecDepth 100000 in
theorem g_X9_takeFrom_66_158_11_0 {d : Nat} {F : xQ} {b : Nat × Nat} {I : xI} {L : xL} {z : Nat}  (hd : 0 ≤ d) (h : xCd d 294 [.ref 175, .ref 83] (xS (xw (xw I 66 9 (I 158 9)) 66 10 ((xw I 66 9 (I 158 9)) 158 10)) L (true, true, z)) (fun r τ => xEX k_X9_takeFrom 0 (xCd d) F 27 [some (.ref 66), some (.ref 158), none] (r.toList ++ []) τ b)) : h_X9_takeFrom_66_158_11_0 d F b I L z  :=
  (xgo b_X9_takeFrom_66_158_11_0 h)
theorem c_X9_takeFrom_66_158_11 {d : Nat} {F : xQ} {I : xI} {L : xL} {z : Nat}  (h : h_X9_takeFrom_66_158_11_0 d F (0, 0) I L z ) : xCd (d + 1) 295 [.ref 66, .ref 158] (xS I L (true, true, z)) F :=
  xin_ (T := k_X9_takeFrom) (rt := 0) (ls := [some (.ref 66), some (.ref 158), none]) rfl rfl rfl rfl h
set_option maxRecDepth 100000 in
theorem g_X9_takeFrom_66_158_11_27 {d : Nat} {F : xQ} {b : Nat × Nat} {I : xI} {L : xL} {z : Nat}  (hd : 0 ≤ d) (h : xCd d 294 [.ref 176, .ref 84] (xS I L (true, true, z)) (fun r τ => xEX k_X9_takeFrom 0 (xCd d) F 38 [some (.ref 66), some (.ref 158), none] (r.toList ++ []) τ b)) : h_X9_takeFrom_66_158_11_27 d F b I L z  :=
  (xgo b_X9_takeFrom_66_158_11_27 h)
set_option maxRecDepth 100000 in
theorem g_X9_takeFrom_66_158_11_38 {d : Nat} {F : xQ} {b : Nat × Nat} {I : xI} {L : xL} {z : Nat}  (hd : 0 ≤ d) (h : xCd d 294 [.ref 184, .ref 92] (xS I L (true, true, z)) (fun r τ => xEX k_X9_takeFrom 0 (xCd d) F 49 [some (.ref 66), some (.ref 158), none] (r.toList ++ []) τ b)) : h_X9_takeFrom_66_158_11_38 d F b I L z  :=
  (xgo b_X9_takeFrom_66_158_11_38 h)
set_option maxRecDepth 100000 in
theorem g_X9_takeFrom_66_158_11_49 {d : Nat} {F : xQ} {b : Nat × Nat} {I : xI} {L : xL} {z : Nat}  (hd : 0 ≤ d) (h : xCd d 294 [.ref 185, .ref 93] (xS I L (true, true, z)) (fun r τ => xEX k_X9_takeFrom 0 (xCd d) F 60 [some (.ref 66), some (.ref 158), none] (r.toList ++ []) τ b)) : h_X9_takeFrom_66_158_11_49 d F b I L z  :=
  (xgo b_X9_takeFrom_66_158_11_49 h)
set_option maxRecDepth 100000 in
theorem g_X9_takeFrom_66_158_11_60 {d : Nat} {F : xQ} {b : Nat × Nat} {I : xI} {L : xL} {z : Nat}  (hd : 0 ≤ d) (h : h_X9_takeFrom_66_158_11_62 d F b I L z 0) : h_X9_takeFrom_66_158_11_60 d F b I L z  :=
  (xgo b_X9_takeFrom_66_158_11_60 h)
set_option maxRecDepth 100000 in
theorem g_X9_takeFrom_66_158_11_62 {d : Nat} {F : xQ} {b : Nat × Nat} {I : xI} {L : xL} {z : Nat} {a2 : Int32} (hd : 0 ≤ d) (h : (if a2 < 6 then (if xin a2 (6) then xCd d 294 [.ref (177 + 1 + Int32.toNatClampNeg a2), .ref (85 + 1 + Int32.toNatClampNeg a2)] (xS I L (true, true, z)) (fun r τ => xEX k_X9_takeFrom 0 (xCd d) F 83 [some (.ref 66), some (.ref 158), some (.int a2)] (r.toList ++ []) τ b) else False) else xCd d 294 [.ref 193, .ref 101] (xS (xw I 66 17 (I 158 17)) L (true, true, z)) (fun r τ => xEX k_X9_takeFrom 0 (xCd d) F 123 [some (.ref 66), some (.ref 158), some (.int a2)] (r.toList ++ []) τ b))) : h_X9_takeFrom_66_158_11_62 d F b I L z a2 :=
  (xgo b_X9_takeFrom_66_158_11_62 (xite (fun c827 h827 => (xite (fun c828 h828 => (xitT c828 h828)) (fun c828 h828 => h828) h827)) (fun c827 h827 => h827) h))
set_option maxRecDepth 100000 in
theorem g_X9_takeFrom_66_158_11_83 {d : Nat} {F : xQ} {b : Nat × Nat} {I : xI} {L : xL} {z : Nat} {a2 : Int32} (hd : 0 ≤ d) (h : (if xin a2 (6) then xCd d 294 [.ref (186 + 1 + Int32.toNatClampNeg a2), .ref (94 + 1 + Int32.toNatClampNeg a2)] (xS I L (true, true, z)) (fun r τ => xEX k_X9_takeFrom 0 (xCd d) F 98 [some (.ref 66), some (.ref 158), some (.int a2)] (r.toList ++ []) τ b) else False)) : h_X9_takeFrom_66_158_11_83 d F b I L z a2 :=
  (xgo b_X9_takeFrom_66_158_11_83 (xite (fun c829 h829 => (xitT c829 h829)) (fun c829 h829 => h829) h))
set_option maxRecDepth 100000 in
theorem g_X9_takeFrom_66_158_11_98 {d : Nat} {F : xQ} {b : Nat × Nat} {I : xI} {L : xL} {z : Nat} {a2 : Int32} (hd : 0 ≤ d) (h : h_X9_takeFrom_66_158_11_62 d F b I L z (a2 + 1)) : h_X9_takeFrom_66_158_11_98 d F b I L z a2 :=
  (xgo b_X9_takeFrom_66_158_11_98 h)
set_option maxRecDepth 100000 in
theorem g_X9_takeFrom_66_158_11_123 {d : Nat} {F : xQ} {b : Nat × Nat} {I : xI} {L : xL} {z : Nat} {a2 : Int32} (hd : 0 ≤ d) (h : xCd d 294 [.ref 194, .ref 102] (xS I L (true, true, z)) (fun r τ => xEX k_X9_takeFrom 0 (xCd d) F 134 [some (.ref 66), some (.ref 158), some (.int a2)] (r.toList ++ []) τ b)) : h_X9_takeFrom_66_158_11_123 d F b I L z a2 :=
  (xgo b_X9_takeFrom_66_158_11_123 h)
set_option maxRecDepth 100000 in
theorem g_X9_takeFrom_66_158_11_134 {d : Nat} {F : xQ} {b : Nat × Nat} {I : xI} {L : xL} {z : Nat} {a2 : Int32} (hd : 0 ≤ d) (h : F none (xS (xw I 66 20 (I 158 20)) L (true, true, z))) : h_X9_takeFrom_66_158_11_134 d F b I L z a2 :=
  (xgo b_X9_takeFrom_66_158_11_134 h)
