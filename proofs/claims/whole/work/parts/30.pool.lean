/-! the pure machine's trees: how a condition is passed by -/
theorem xite {c : Prop} {_ : Decidable c} {A A' B B' : Prop} (ha : c → A' → A) (hb : ¬c → B' → B) : (if c then A' else B') → (if c then A else B) := by
  by_cases h : c
  · simp only [if_pos h]; exact ha h
  · simp only [if_neg h]; exact hb h
theorem xiteB {p : Prop} {_ : Decidable p} {A A' B B' : Prop} (hb : p → B' → B) (ha : ¬p → A' → A) : (if p then B' else A') → (if (if p then (1 : Int32) else 0) = 0 then A else B) := by
  by_cases h : p
  · simp only [if_pos h]; rw [if_neg (by decide)]; exact hb h
  · simp only [if_neg h]; exact ha h
theorem xitT {c : Prop} {_ : Decidable c} {A B : Prop} (h : c) (k : A) : if c then A else B := by rw [if_pos h]; exact k
theorem xitF {c : Prop} {_ : Decidable c} {A B : Prop} (h : ¬c) (k : B) : if c then A else B := by rw [if_neg h]; exact k
theorem xbifT {c : Bool} {A : Prop} (h : c = true) (k : A) : bif c then A else False := by subst h; exact k
theorem xbool_b {p : Prop} {_ : Decidable p} : xbool (if p then 1 else 0) = true := by
  by_cases h : p
  · rw [if_pos h]; rfl
  · rw [if_neg h]; rfl
theorem xupD {d D c : Nat} {args : List Value} {σ : xH} {F : xQ} (h : xCd D c args σ F) (hd : D ≤ d) : xCd d c args σ F := xCd_le hd _ _ _ _ _ (fun _ _ z => z) h
theorem xin_iff (i : Int32) (n : Nat) : xin i n ↔ (0 ≤ i.toInt ∧ i.toInt < (n : Int)) := by
  have h0 : (0 : Int32).toInt = 0 := rfl
  have hc : i.toNatClampNeg = i.toInt.toNat := rfl
  unfold xin
  rw [Int32.lt_iff_toInt_lt, h0, hc]
  omega
theorem xin_of {i : Int32} {n : Nat} (hn : n < 2147483648) (h0 : ¬ i < 0) (h1 : i < Int32.ofNat n) : xin i n := by
  rw [xin_iff]
  rw [Int32.lt_iff_toInt_lt] at h0 h1
  have e : (Int32.ofNat n).toInt = (n : Int) := Int32.toInt_ofNat_of_lt (by omega)
  have e0 : (0 : Int32).toInt = 0 := rfl
  omega
