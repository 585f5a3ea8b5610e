/-! a told handing: what both sides read of a row -/
def tn (x : Int64) : Nat := if 0 ≤ x.toInt ∧ x.toInt < 6 then x.toInt.toNat else 7
def tv (x : Int64) : Int32 := if tn x = 7 then -1 else Int32.ofNat (tn x)
theorem tn_cases (x : Int64) : (tn x = 7 ∧ ¬ (0 ≤ x.toInt ∧ x.toInt < 6)) ∨ (tn x < 6 ∧ x.toInt = (tn x : Int) ∧ Int64.toInt32 x = Int32.ofNat (tn x)) := by
  unfold tn
  by_cases e : 0 ≤ x.toInt ∧ x.toInt < 6
  · right
    rw [if_pos e]
    refine ⟨by omega, by omega, ?_⟩
    have : x = Int64.ofInt x.toInt := (Int64.ofInt_toInt x).symm
    obtain ⟨k, hk⟩ : ∃ k : Nat, x.toInt = (k : Int) := ⟨x.toInt.toNat, by omega⟩
    rw [hk] at this e
    have hk6 : k = 0 ∨ k = 1 ∨ k = 2 ∨ k = 3 ∨ k = 4 ∨ k = 5 := by omega
    rw [hk, this]
    obtain rfl | rfl | rfl | rfl | rfl | rfl := hk6 <;> rfl
  · left; rw [if_neg e]; exact ⟨rfl, e⟩
theorem cmp_lt {x y : Int64} : ((if x < y then -1 else if x = y then 0 else 1 : Int32) < 0) ↔ x.toInt < y.toInt := by
  rw [← Int64.lt_iff_toInt_lt]
  by_cases q : x < y
  · rw [if_pos q]; exact ⟨fun _ => q, fun _ => by decide⟩
  · rw [if_neg q]
    by_cases r : x = y
    · rw [if_pos r]; exact ⟨fun x => absurd x (by decide), fun x => absurd x q⟩
    · rw [if_neg r]; exact ⟨fun x => absurd x (by decide), fun x => absurd x q⟩
theorem cmp_gt {x y : Int64} : (0 < (if x < y then -1 else if x = y then 0 else 1 : Int32)) ↔ y.toInt < x.toInt := by
  have e := @Int64.lt_iff_toInt_lt x y
  have e' := @Int64.toInt_inj x y
  by_cases q : x < y
  · rw [if_pos q]
    have := e.mp q
    exact ⟨fun x => absurd x (by decide), fun x => by omega⟩
  · rw [if_neg q]
    have q' : ¬ x.toInt < y.toInt := fun z => q (e.mpr z)
    by_cases r : x = y
    · rw [if_pos r]
      have := e'.mpr r
      exact ⟨fun x => absurd x (by decide), fun x => by omega⟩
    · rw [if_neg r]
      have r' : ¬ x.toInt = y.toInt := fun z => r (e'.mp z)
      exact ⟨fun x => by omega, fun x => by decide⟩
theorem xp_in64 {I : xI} {L : xL} {x lo hi : Int64} : p_X9_in I L x lo hi ↔ (lo.toInt ≤ x.toInt ∧ x.toInt ≤ hi.toInt) := by
  unfold p_X9_in
  rw [cmp_lt, cmp_gt]
  omega
theorem aBits_bit {f : Nat → Nat} {u : Nat} : ∀ n, (aBits f n).testBit u = true ↔ ∃ j, j < n ∧ f j = u
  | 0 => by simp [aBits]
  | n + 1 => by
    have ih := aBits_bit (f := f) (u := u) n
    simp only [aBits]
    rw [Nat.testBit_or, Bool.or_eq_true, ih, Nat.testBit_two_pow]
    constructor
    · rintro (⟨j, a, b⟩ | a)
      · exact ⟨j, by omega, b⟩
      · exact ⟨n, by omega, by simpa using a⟩
    · rintro ⟨j, a, b⟩
      by_cases e : j = n
      · right; rw [← e]; simpa using b
      · left; exact ⟨j, by omega, b⟩
/-- why a told handing is refused -/
def tfk (n : Nat) (I : xI) (a : Int32) (k : Nat) : Prop := (k = 2 ∧ ¬ (0 ≤ a.toInt ∧ a.toInt < (8 : Nat))) ∨ ∃ s, s < 8 ∧ a = Int32.ofNat s ∧ ((k = 3 ∧ I 67 s = 2) ∨ (k = 4 ∧ I 67 s = 0) ∨ (k = 2 ∧ I 67 s = 1 ∧ ∃ m, m < n ∧ I 69 s = Int32.ofNat m))
theorem tree_no {n k : Nat} {I J : xI} {L : xL} {a : Int32} {X2 X3 X4 G : Prop} (hk : tfk n I a k) (h67 : ∀ s, J 67 s = I 67 s) (h69 : ∀ s, J 69 s = I 69 s) (hn : J 66 9 = Int32.ofNat n) (n6 : n ≤ 6) (h2 : k = 2 → X2) (h3 : k = 3 → X3) (h4 : k = 4 → X4) : (if p_X9_in J L (Int32.toInt64 a) (Int64.ofNat 0) (Int64.ofNat 7) then (if xin a 8 then (if J 67 (Int32.toNatClampNeg a) = 2 then X3 else (if J 67 (Int32.toNatClampNeg a) = 0 then X4 else (if J 69 (Int32.toNatClampNeg a) < J 66 9 then X2 else G))) else False) else X2) := by
  rcases hk with ⟨rfl, e⟩ | ⟨s, hs, rfl, q⟩
  · rw [if_neg (fun q => e ((xm_in (by decide) (by decide)).mp q))]; exact h2 rfl
  · rw [if_pos ((xm_in (by decide) (by decide)).mpr (by rw [xv_int (by omega)]; omega)), if_pos ((xv_in (by omega)).mpr hs), xv_clamp (by omega), h67, h69, hn]
    rcases q with ⟨rfl, q⟩ | ⟨rfl, q⟩ | ⟨rfl, q, m, hm, r⟩
    · rw [if_pos q]; exact h3 rfl
    · rw [q, if_neg (by decide), if_pos rfl]; exact h4 rfl
    · rw [q, if_neg (by decide), if_neg (by decide), r, if_pos ((xv_lt (by omega) (by omega)).mpr hm)]; exact h2 rfl
theorem tree_yes {n m s : Nat} {J : xI} {L : xL} {X2 X3 X4 G : Prop} (hs : s < 8) (h67 : J 67 s = 1) (h69 : J 69 s = Int32.ofNat m) (hm : m ≤ 40) (hn : J 66 9 = Int32.ofNat n) (n6 : n ≤ m) (g : G) : (if p_X9_in J L (Int32.toInt64 (Int32.ofNat s)) (Int64.ofNat 0) (Int64.ofNat 7) then (if xin (Int32.ofNat s) 8 then (if J 67 (Int32.toNatClampNeg (Int32.ofNat s)) = 2 then X3 else (if J 67 (Int32.toNatClampNeg (Int32.ofNat s)) = 0 then X4 else (if J 69 (Int32.toNatClampNeg (Int32.ofNat s)) < J 66 9 then X2 else G))) else False) else X2) := by
  rw [if_pos ((xm_in (by decide) (by decide)).mpr (by rw [xv_int (by omega)]; omega)), if_pos ((xv_in (by omega)).mpr hs), xv_clamp (by omega), h67, h69, hn, if_neg (by decide), if_neg (by decide), if_neg (fun q => by have := (xv_lt (by omega) (by omega)).mp q; omega)]
  exact g
theorem t_told_no {n k : Nat} {I : xI} {L : xL} {z : Bool × Bool × Nat} {a : Int32} (hk : tfk n I a k) (hsh : ∀ s, s < 8 → xShM I L s) (hn : I 10 0 = Int32.ofNat n) (n6 : n ≤ 6) : xCd 4 178 [.ref 9, .int a] (xS I L z) (qP I L z (-(Int32.ofNat k))) := by
  refine c_X8_faultOfTold (d := 3) (g_X8_faultOfTold_0 (by decide) ?_)
  rcases hk with ⟨rfl, e⟩ | ⟨s, hs, rfl, q⟩
  · have f2 : f_X2_faultOfRow I L a = -2 := by
      unfold f_X2_faultOfRow
      rw [if_neg (fun q => e (xi_shelf.mp q))]
    rw [f2, if_neg (by decide)]
    exact ⟨rfl, rfl⟩
  · rw [f_fault hs (hsh s hs)]
    rcases q with ⟨rfl, q⟩ | ⟨rfl, q⟩ | ⟨rfl, q, m, hm, r⟩
    · rw [q, if_pos rfl, if_neg (by decide)]; exact ⟨rfl, rfl⟩
    · rw [q, if_neg (by decide), if_pos rfl, if_neg (by decide)]; exact ⟨rfl, rfl⟩
    · rcases sh_kind (hsh s hs) with ⟨g1, g2⟩ | ⟨v, j, b1, b2, g1, g2, g3, g4, g5⟩ | ⟨u, b1, g1, g2⟩
      · rw [q] at g2; exact absurd g2 (by decide)
      · rw [r] at g5
        have := (xv_eq (by omega) (by omega)).mp g5
        subst this
        rw [q, if_pos (show (if (1 : Int32) = 2 then -3 else if (1 : Int32) = 0 then -4 else 0) = (0 : Int32) from by decide), if_neg]
        · exact ⟨rfl, rfl⟩
        · rintro ⟨_, _, _, _, x, _⟩
          rw [xv_clamp (by omega), g2, hn] at x
          exact x ((xv_lt (by omega) (by omega)).mpr hm)
      · rw [q] at g2; exact absurd g2 (by decide)
theorem t_told {n m v s : Nat} {I : xI} {L : xL} {z : Bool × Bool × Nat} (hs : s < 8) (hv : v < 5) (hm : m ≤ 40) (h58 : I 58 s = Int32.ofNat v) (h59 : I 59 s = Int32.ofNat m) (hsh : xShM I L s) (h67 : I 67 s = 1) (hn : I 10 0 = Int32.ofNat n) (n6 : n ≤ 6) (nm : n ≤ m) : xCd 4 178 [.ref 9, .int (Int32.ofNat s)] (xS I L z) (qV (xAt 64) I L z 0 (fun J => ∀ i, i < n → J 64 i = tv (L 60 (s * 40 + i)))) := by
  refine c_X8_faultOfTold (d := 3) (g_X8_faultOfTold_0 (by decide) ?_)
  have R := xp_row (L := L) hs hv h58
  have E : p_X2_hasElements I L (Int32.ofNat s) 0 (I 10 0) := by
    refine ⟨R, by decide, by rw [hn]; exact xv_neg (by omega), (xv_in (by omega)).mpr hs, ?_, (xv_in (by omega)).mpr hs, ?_⟩
    · rw [xv_clamp (by omega), h59, hn]
      intro q
      have := (xv_lt (by omega) (by omega)).mp q
      omega
    · rw [xv_clamp (by omega), h59, hn, xv_sub nm]
      exact xv_neg (by omega)
  have f0 : f_X2_faultOfRow I L (Int32.ofNat s) = 0 := by rw [f_fault hs hsh, h67, if_neg (by decide), if_neg (by decide)]
  rw [f0, if_pos rfl, if_pos E]
  have key : ∀ i, i ≤ 6 → ∀ J : xI, xsm (xAt 64) I J → (∀ j, j < i → j < n → J 64 j = tv (L 60 (s * 40 + j))) → h_X8_faultOfTold_39 3 (qV (xAt 64) I L z 0 (fun J => ∀ i, i < n → J 64 i = tv (L 60 (s * 40 + i)))) (0, 0) J L z (Int32.ofNat s) 0 (Int32.ofNat i) := by
    refine xcount _ 6 ?_ ?_
    · intro i hi KK J hJ j64
      refine g_X8_faultOfTold_39 (by decide) ?_
      have g58 : J 58 s = Int32.ofNat v := by rw [hJ 58 s (by unfold xAt; omega)]; exact h58
      have g59 : J 59 s = Int32.ofNat m := by rw [hJ 59 s (by unfold xAt; omega)]; exact h59
      have X := xp_el (L := L) (a := Int32.ofNat i) hs hv hm g58 g59
      rw [if_pos (show Int32.ofNat i < (6 : Int32) from (xv_lt (b := 6) (by omega) (by decide)).mpr hi)]
      have ix : Int32.ofNat s * 40 + Int32.ofNat i = Int32.ofNat (s * 40 + i) := by
        rw [show Int32.ofNat s * 40 = Int32.ofNat (s * 40) from xv_mul s 40, xv_add]
      have nx : ∀ w : Int32, (i < n → w = tv (L 60 (s * 40 + i))) → h_X8_faultOfTold_39 3 (qV (xAt 64) I L z 0 (fun J => ∀ i, i < n → J 64 i = tv (L 60 (s * 40 + i)))) (0, 0) (xw J 64 i w) L z (Int32.ofNat s) 0 (Int32.ofNat i + 1) := by
        intro w hw
        rw [show Int32.ofNat i + 1 = Int32.ofNat (i + 1) from xv_add i 1]
        refine KK _ (xsm_xw rfl hJ) ?_
        intro j hj hjn
        by_cases d : j = i
        · rw [d, xw_eq]; exact hw (by omega)
        · rw [xw_ne2 d]; exact j64 j (by omega) hjn
      by_cases im : i < m
      · rw [if_pos (X.mpr (by rw [xv_int (by omega)]; omega)), ix, if_pos ((xv_in (by omega)).mpr (by omega))]
        simp only [xv_clamp (show s * 40 + i < 2147483648 by omega), xv_clamp (show i < 2147483648 by omega)]
        generalize L 60 (s * 40 + i) = x at nx ⊢
        have z0 : (Int64.ofNat 0).toInt = 0 := rfl
        have z6 : (Int64.ofNat 6).toInt = 6 := rfl
        have hi6 : xin (Int32.ofNat i) 6 := (xv_in (by omega)).mpr hi
        rcases tn_cases x with ⟨a, b⟩ | ⟨a, b, d⟩
        · have tx : tv x = -1 := by unfold tv; rw [if_pos a]
          by_cases c1 : (if x < (Int64.ofNat 0) then -1 else if x = (Int64.ofNat 0) then 0 else 1 : Int32) < 0
          · rw [if_pos c1, if_pos hi6]; exact nx _ (fun _ => tx.symm)
          · have c1' := c1
            rw [cmp_lt, z0] at c1'
            rw [if_neg c1, if_neg (fun q => by rw [cmp_lt, z6] at q; omega), if_pos hi6]; exact nx _ (fun _ => tx.symm)
        · have tx : tv x = Int32.ofNat (tn x) := by unfold tv; rw [if_neg (by omega)]
          rw [if_neg (fun q => by rw [cmp_lt, z0] at q; omega), if_pos (by rw [cmp_lt, z6]; omega), if_pos hi6]
          exact nx _ (fun _ => by rw [tx]; exact d)
      · rw [if_neg (fun q => im (by have := X.mp q; rw [xv_int (by omega)] at this; omega))]
        simp only [xv_clamp (show i < 2147483648 by omega)]
        rw [if_neg (by decide), if_pos (by decide), if_pos ((xv_in (by omega)).mpr hi)]
        exact nx _ (fun q => by omega)
    · intro J hJ j64
      refine g_X8_faultOfTold_39 (by decide) ?_
      rw [if_neg (by decide)]
      exact ⟨rfl, J, rfl, hJ, fun i hi => j64 i (by omega) hi⟩
  exact key 0 (by decide) I (xsm_refl _ _) (fun j hj => absurd hj (Nat.not_lt_zero _))
/-- a told handing: refused, or read -/
theorem told_cases {A : xAb} {I : xI} {L : xL} {z : Bool × Bool × Nat} (h : xBoth A I L z) (a : Int32) : (∃ k, 2 ≤ k ∧ k ≤ 4 ∧ tfk (ab_n A) I a k) ∨ ∃ s m v, s < 8 ∧ a = Int32.ofNat s ∧ v < 5 ∧ m ≤ 40 ∧ ab_n A ≤ m ∧ I 58 s = Int32.ofNat v ∧ I 59 s = Int32.ofNat m ∧ I 67 s = 1 ∧ I 69 s = Int32.ofNat m ∧ ∀ i, i < m → L 60 (s * 40 + i) = L (71 + s) i := by
  by_cases e : 0 ≤ a.toInt ∧ a.toInt < (8 : Nat)
  · obtain ⟨s, hs, rfl⟩ := xr_nat e
    rcases h.2.2.2.1 s hs with ⟨e1, e2⟩ | ⟨v, n, e1, e2, e3, e4, e5, e6, e7, e8⟩ | ⟨t, e1, e2, e3, e4, e5⟩
    · exact Or.inl ⟨4, by decide, by decide, Or.inr ⟨s, hs, rfl, Or.inr (Or.inl ⟨rfl, e2⟩)⟩⟩
    · by_cases d : n < ab_n A
      · exact Or.inl ⟨2, by decide, by decide, Or.inr ⟨s, hs, rfl, Or.inr (Or.inr ⟨rfl, e5, n, d, e7⟩)⟩⟩
      · exact Or.inr ⟨s, n, v, hs, rfl, e1, e2, by omega, e3, e4, e5, e7, e8⟩
    · exact Or.inl ⟨3, by decide, by decide, Or.inr ⟨s, hs, rfl, Or.inl ⟨rfl, e4⟩⟩⟩
  · exact Or.inl ⟨2, by decide, by decide, Or.inl ⟨rfl, e⟩⟩
