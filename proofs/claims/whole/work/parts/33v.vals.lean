/-! small numbers in Int32 -/
theorem xv_clamp {a : Nat} (h : a < 2147483648) : (Int32.ofNat a).toNatClampNeg = a := Int32.toNatClampNeg_ofNat_of_lt h
theorem xv_int {a : Nat} (h : a < 2147483648) : (Int32.ofNat a).toInt = (a : Int) := Int32.toInt_ofNat_of_lt h
theorem xv_lt {a b : Nat} (ha : a < 2147483648) (hb : b < 2147483648) : Int32.ofNat a < Int32.ofNat b ↔ a < b := by
  rw [Int32.lt_iff_toInt_lt, xv_int ha, xv_int hb]; omega
theorem xv_eq {a b : Nat} (ha : a < 2147483648) (hb : b < 2147483648) : Int32.ofNat a = Int32.ofNat b ↔ a = b := by
  constructor
  · intro h
    have q := congrArg Int32.toInt h
    rw [xv_int ha, xv_int hb] at q
    omega
  · intro h; rw [h]
theorem xv_neg {a : Nat} (ha : a < 2147483648) : ¬ Int32.ofNat a < 0 := by
  rw [Int32.lt_iff_toInt_lt, xv_int ha]
  have : (0 : Int32).toInt = 0 := rfl
  omega
theorem xv_add (a b : Nat) : Int32.ofNat a + Int32.ofNat b = Int32.ofNat (a + b) := (Int32.ofNat_add a b).symm
theorem xv_mul (a b : Nat) : Int32.ofNat a * Int32.ofNat b = Int32.ofNat (a * b) := (Int32.ofNat_mul a b).symm
theorem xv_in {a n : Nat} (ha : a < 2147483648) : xin (Int32.ofNat a) n ↔ a < n := by
  rw [xin_iff, xv_int ha]; omega
/-- every number that is not below zero is small -/
theorem xv_of {x : Int32} (h : ¬ x < 0) : ∃ a : Nat, a < 2147483648 ∧ x = Int32.ofNat a := by
  refine ⟨x.toNatClampNeg, ?_, ?_⟩
  · have e : x.toNatClampNeg = x.toInt.toNat := rfl
    have q := Int32.toInt_lt x
    rw [e]; omega
  · rw [Int32.lt_iff_toInt_lt] at h
    have h0 : (0 : Int32).toInt = 0 := rfl
    have e : x.toNatClampNeg = x.toInt.toNat := rfl
    have q := Int32.toInt_lt x
    apply Int32.toInt_inj.mp
    rw [e, xv_int (by omega)]
    omega
theorem xw_eq (I : xI) (o k : Nat) (v : Int32) : xw I o k v o k = v := if_pos ⟨rfl, rfl⟩
theorem xw_ne {I : xI} {o k o' k' : Nat} {v : Int32} (h : ¬ (o' = o ∧ k' = k)) : xw I o k v o' k' = I o' k' := if_neg h
theorem xw_ne1 {I : xI} {o k o' k' : Nat} {v : Int32} (h : o' ≠ o) : xw I o k v o' k' = I o' k' := if_neg fun q => h q.1
theorem xw_ne2 {I : xI} {o k o' k' : Nat} {v : Int32} (h : k' ≠ k) : xw I o k v o' k' = I o' k' := if_neg fun q => h q.2
theorem xwl_eq (I : xL) (o k : Nat) (v : Int64) : xwl I o k v o k = v := if_pos ⟨rfl, rfl⟩
theorem xwl_ne {I : xL} {o k o' k' : Nat} {v : Int64} (h : ¬ (o' = o ∧ k' = k)) : xwl I o k v o' k' = I o' k' := if_neg h
theorem xwl_ne1 {I : xL} {o k o' k' : Nat} {v : Int64} (h : o' ≠ o) : xwl I o k v o' k' = I o' k' := if_neg fun q => h q.1
/-- two states that agree but for some cells -/
def xsame (S : Nat → Prop) (I J : xI) : Prop := ∀ o, ¬ S o → ∀ k, J o k = I o k
def xsamel (S : Nat → Prop) (I J : xL) : Prop := ∀ o, ¬ S o → ∀ k, J o k = I o k
theorem xsame_refl (S : Nat → Prop) (I : xI) : xsame S I I := fun _ _ _ => rfl
theorem xsame_trans {S : Nat → Prop} {I J K : xI} (h : xsame S I J) (k : xsame S J K) : xsame S I K := fun o ho i => (k o ho i).trans (h o ho i)
theorem xsame_xw {S : Nat → Prop} {I J : xI} {o k : Nat} {v : Int32} (ho : S o) (h : xsame S I J) : xsame S I (xw J o k v) := fun o' h' k' => (xw_ne1 fun q => h' (by rw [q]; exact ho)).trans (h o' h' k')
theorem xsamel_refl (S : Nat → Prop) (I : xL) : xsamel S I I := fun _ _ _ => rfl
theorem xsamel_trans {S : Nat → Prop} {I J K : xL} (h : xsamel S I J) (k : xsamel S J K) : xsamel S I K := fun o ho i => (k o ho i).trans (h o ho i)
theorem xsamel_xwl {S : Nat → Prop} {I J : xL} {o k : Nat} {v : Int64} (ho : S o) (h : xsamel S I J) : xsamel S I (xwl J o k v) := fun o' h' k' => (xwl_ne1 fun q => h' (by rw [q]; exact ho)).trans (h o' h' k')
