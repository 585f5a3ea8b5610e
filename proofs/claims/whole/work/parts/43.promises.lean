theorem pr_holds (a1 : Int32) : xPr 5 137 199 [.int a1] := by
  intro A I L z h
  have e0 : (0 : Int32).toInt = 0 := rfl
  have e8 : (8 : Int32).toInt = 8 := rfl
  refine xupD (c_X8_holds ?_) (by decide)
  by_cases hp : 0 ≤ a1.toInt ∧ a1.toInt ≤ 7
  · obtain ⟨v, hv, rfl⟩ := xv_of (xv_nn hp.1)
    have h8 : v < 8 := by
      have q := hp.2
      rw [xv_int hv] at q
      omega
    have hi : xin (Int32.ofNat v) 8 := (xv_in hv).mpr h8
    have e : f_X2_thingOf I L (Int32.ofNat v) = I 58 v := by
      unfold f_X2_thingOf
      rw [if_pos (show p_X2_isShelf I L (Int32.ofNat v) from ⟨xv_neg hv, (xv_lt hv (show 8 < 2147483648 by decide)).mpr h8⟩), if_pos hi, xv_clamp hv]
    rw [e]
    refine xupD (c_X9_holds ?_) (by decide)
    rw [if_pos ((xp_in (by decide) (by decide)).mpr (by rw [xv_int hv]; omega))]
    simp only [if_pos hi]
    rw [xv_clamp hv]
    rcases h.2.2.2.1 v h8 with ⟨g1, g2⟩ | ⟨s, n, b1, b2, g1, g2, g3, g4, g5, g6⟩ | ⟨t, b1, b2, g1, g2, g3⟩
    · rw [if_pos g2]
      exact ⟨by rw [g1], A, I, L, z, rfl, h⟩
    · rw [if_neg (by rw [g3]; decide), if_pos g3, g4]
      exact ⟨by rw [g1], A, I, L, z, rfl, h⟩
    · rw [if_neg (by rw [g2]; decide), if_neg (by rw [g2]; decide), g3]
      exact ⟨by rw [g1, show (10 : Int32) + Int32.ofNat t = Int32.ofNat (10 + t) from xv_add 10 t], A, I, L, z, rfl, h⟩
  · have e : f_X2_thingOf I L a1 = -1 := by
      unfold f_X2_thingOf
      rw [if_neg (fun q => hp (by
        obtain ⟨q1, q2⟩ := q
        rw [Int32.lt_iff_toInt_lt] at q1 q2
        omega))]
    rw [e]
    refine xupD (c_X9_holds ?_) (by decide)
    rw [if_neg (fun q => hp (by
      have q := (xp_in (by decide) (by decide)).mp q
      omega))]
    exact ⟨rfl, A, I, L, z, rfl, h⟩
/-- a number between two bounds, whatever they are -/
theorem xp_inG {I : xI} {L : xL} {a : Int32} {lo hi : Int64} : p_X9_in I L (Int32.toInt64 a) lo hi ↔ (lo.toInt ≤ a.toInt ∧ a.toInt ≤ hi.toInt) := by
  have e0 : (Int32.toInt64 a).toInt = a.toInt := Int32.toInt_toInt64 a
  have k1 : ((if Int32.toInt64 a < lo then -1 else if Int32.toInt64 a = lo then 0 else 1 : Int32) < 0) ↔ a.toInt < lo.toInt := by
    have e := @Int64.lt_iff_toInt_lt (Int32.toInt64 a) lo
    rw [e0] at e
    by_cases q : Int32.toInt64 a < lo
    · rw [if_pos q]; exact ⟨fun _ => e.mp q, fun _ => by decide⟩
    · rw [if_neg q]
      by_cases r : Int32.toInt64 a = lo
      · rw [if_pos r]; exact ⟨fun x => absurd x (by decide), fun x => absurd (e.mpr x) q⟩
      · rw [if_neg r]; exact ⟨fun x => absurd x (by decide), fun x => absurd (e.mpr x) q⟩
  have k2 : (0 < (if Int32.toInt64 a < hi then -1 else if Int32.toInt64 a = hi then 0 else 1 : Int32)) ↔ hi.toInt < a.toInt := by
    have e := @Int64.lt_iff_toInt_lt (Int32.toInt64 a) hi
    have e' := @Int64.toInt_inj (Int32.toInt64 a) hi
    rw [e0] at e e'
    by_cases q : Int32.toInt64 a < hi
    · rw [if_pos q]
      have := e.mp q
      exact ⟨fun x => absurd x (by decide), fun x => by omega⟩
    · rw [if_neg q]
      have q' : ¬ a.toInt < hi.toInt := fun z => q (e.mpr z)
      by_cases r : Int32.toInt64 a = hi
      · rw [if_pos r]
        have := e'.mpr r
        exact ⟨fun x => absurd x (by decide), fun x => by omega⟩
      · rw [if_neg r]
        have r' : ¬ a.toInt = hi.toInt := fun z => r (e'.mp z)
        exact ⟨fun x => by omega, fun x => by decide⟩
  unfold p_X9_in
  rw [k1, k2]
  omega
