/-! what both sides keep: one state of values, read from the cells of each -/
/-- cups, law, seed; poured; stood; marks; wants; minds; signs (place * 4 + kind) * 10 + number, in order; tellers -/
abbrev xAb : Type := (Nat × Nat × Int32) × (Nat → Nat) × (Nat → Nat) × (Nat → Nat → Nat) × (Nat → Int32) × (Nat → Nat) × List Nat × List (Nat × Nat)
def ab_n (A : xAb) : Nat := A.1.1
def ab_law (A : xAb) : Nat := A.1.2.1
def ab_seed (A : xAb) : Int32 := A.1.2.2
def ab_pour (A : xAb) : Nat → Nat := A.2.1
def ab_stood (A : xAb) : Nat → Nat := A.2.2.1
def ab_mark (A : xAb) : Nat → Nat → Nat := A.2.2.2.1
def ab_want (A : xAb) : Nat → Int32 := A.2.2.2.2.1
def ab_mind (A : xAb) : Nat → Nat := A.2.2.2.2.2.1
def ab_sign (A : xAb) : List Nat := A.2.2.2.2.2.2.1
def ab_tell (A : xAb) : List (Nat × Nat) := A.2.2.2.2.2.2.2
/-- the number that is known of a place and a kind -/
def ab_known (A : xAb) (p k : Nat) : Int32 := match (ab_sign A).find? (fun s => Nat.beq (s / 10) (p * 4 + k)) with
  | some s => Int32.ofNat (s % 10)
  | none => -1
/-- it is a state that can be -/
def abOK (A : xAb) : Prop :=
  (2 ≤ ab_n A ∧ ab_n A ≤ 6) ∧ ab_law A ≤ 2 ∧ (∀ k, k < 6 → ab_pour A k < 6) ∧ (∀ k, k < 6 → ab_stood A k < 6) ∧ (∀ k, ab_n A ≤ k → k < 6 → ab_pour A k = 0 ∧ ab_stood A k = 0) ∧
  (∀ s, s < 6 → ∀ l, l < 3 → ab_mark A s l < 10) ∧ (∀ k, k < 6 → ab_want A k = -1 ∨ ∃ v, v < 6 ∧ ab_want A k = Int32.ofNat v) ∧ (∀ k, k < 6 → ab_mind A k < 10) ∧
  ((ab_sign A).length ≤ 24 ∧ (∀ s, s ∈ ab_sign A → s / 40 < ab_n A ∧ (s / 10 % 4 = 3 → s % 10 < 6)) ∧ ((ab_sign A).map (fun s => s / 10)).Nodup) ∧
  ((ab_tell A).length ≤ 4 ∧ ∀ q, q ∈ ab_tell A → q.1 < 6 ∧ q.2 < 10)
/-- a tray of the class, its cells from t on -/
def xTX (I : xI) (t : Nat) (A : xAb) : Prop :=
  (I t 0 = Int32.ofNat (ab_n A) ∧ I t 1 = Int32.ofNat (ab_law A) ∧ I t 2 = ab_seed A ∧ I t 3 = Int32.ofNat (ab_sign A).length ∧ I t 4 = Int32.ofNat (ab_tell A).length) ∧
  (∀ k, k < 6 → I (t + 1) k = Int32.ofNat (ab_pour A k)) ∧ (∀ k, k < 6 → I (t + 2) k = Int32.ofNat (ab_stood A k)) ∧
  (∀ s, s < 6 → ∀ l, l < 3 → I (t + 3) (s * 3 + l) = Int32.ofNat (ab_mark A s l)) ∧
  (∀ k, k < 6 → I (t + 4) k = ab_want A k) ∧ (∀ k, k < 6 → I (t + 5) k = Int32.ofNat (ab_mind A k)) ∧
  (∀ i, i < (ab_sign A).length → I (t + 6) i = Int32.ofNat ((ab_sign A).getD i 0)) ∧
  (∀ i, i < (ab_tell A).length → I (t + 7) i = Int32.ofNat ((ab_tell A).getD i (0, 0)).1 ∧ I (t + 8) i = Int32.ofNat ((ab_tell A).getD i (0, 0)).2)
/-- the reference, or one of its copies, its cells from m on -/
def xTM (I : xI) (m : Nat) (A : xAb) : Prop :=
  (I m 9 = Int32.ofNat (ab_n A) ∧ I m 10 = Int32.ofNat (ab_law A) ∧ I m 20 = ab_seed A ∧ I m 17 = Int32.ofNat (ab_tell A).length) ∧
  (∀ k, k < 6 → I (m + 17) k = Int32.ofNat (ab_pour A k)) ∧ (∀ k, k < ab_n A → I (m + 18) k = Int32.ofNat (ab_stood A k)) ∧
  (∀ s, s < 6 → (∀ l, l < 3 → I (m + 20 + s) l = Int32.ofNat (ab_mark A s l)) ∧ I (m + 20 + s) 3 = Int32.ofNat s) ∧
  (∀ k, k < 6 → I (m + 26) k = ab_want A k) ∧ (∀ k, k < 6 → I (m + 27) k = Int32.ofNat (ab_mind A k)) ∧
  (∀ p, p < 6 → ∀ k, k < 4 → I (m + 29 + p) k = ab_known A p k) ∧
  (∀ i, i < (ab_tell A).length → I (m + 35) i = Int32.ofNat ((ab_tell A).getD i (0, 0)).1 ∧ I (m + 36) i = Int32.ofNat ((ab_tell A).getD i (0, 0)).2)
/-- a shelf: nothing, a row of a sort and a size, a teller -/
def xShX (I : xI) (s : Nat) : Prop :=
  (I 58 s = -1) ∨ (∃ v n, v < 5 ∧ n ≤ 40 ∧ I 58 s = Int32.ofNat v ∧ I 59 s = Int32.ofNat n) ∨ (∃ t, t < 4 ∧ I 58 s = Int32.ofNat (10 + t))
def xShM (I : xI) (L : xL) (s : Nat) : Prop :=
  (I 58 s = -1 ∧ I 67 s = 0) ∨
  (∃ v n, v < 5 ∧ n ≤ 40 ∧ I 58 s = Int32.ofNat v ∧ I 59 s = Int32.ofNat n ∧ I 67 s = 1 ∧ I 68 s = Int32.ofNat v ∧ I 69 s = Int32.ofNat n ∧ ∀ i, i < n → L 60 (s * 40 + i) = L (71 + s) i) ∨
  (∃ t, t < 4 ∧ Int32.ofNat t < I 10 4 ∧ I 58 s = Int32.ofNat (10 + t) ∧ I 67 s = 2 ∧ I 80 s = Int32.ofNat t)
/-- what a run keeps between two calls, but for what the class has found out of its worlds -/
def xBoth (A : xAb) (I : xI) (L : xL) (z : Bool × Bool × Nat) : Prop :=
  abOK A ∧ xTX I 10 A ∧ xTM I 66 A ∧ (∀ s, s < 8 → xShM I L s) ∧ (∀ i, i < 5 → I 65 i = I 82 (i + 2)) ∧
  (∃ n, n ≤ 250 ∧ I 61 0 = Int32.ofNat n ∧ I 66 7 = Int32.ofNat n ∧ ∀ i, i < n → I 62 i = I 81 i ∧ ∃ v, v < 256 ∧ I 62 i = Int32.ofNat v) ∧
  (I 9 11 = (if z.1 = true then 1 else 0)) ∧ (z.1 = true → ∃ B, abOK B ∧ xTX I 19 B ∧ xTM I 112 B)
/-- what is read of a tray lies in its nine cells -/
theorem xTX_congr {I J : xI} {t : Nat} {A : xAb} (h : ∀ o, t ≤ o → o ≤ t + 8 → ∀ k, J o k = I o k) (q : xTX I t A) : xTX J t A := by
  obtain ⟨⟨q1, q2, q3, q4, q5⟩, q6, q7, q8, q9, q10, q11, q12⟩ := q
  refine ⟨⟨?_, ?_, ?_, ?_, ?_⟩, ?_, ?_, ?_, ?_, ?_, ?_, ?_⟩
  · rw [h t (by omega) (by omega)]; exact q1
  · rw [h t (by omega) (by omega)]; exact q2
  · rw [h t (by omega) (by omega)]; exact q3
  · rw [h t (by omega) (by omega)]; exact q4
  · rw [h t (by omega) (by omega)]; exact q5
  · intro k hk; rw [h (t + 1) (by omega) (by omega)]; exact q6 k hk
  · intro k hk; rw [h (t + 2) (by omega) (by omega)]; exact q7 k hk
  · intro s hs l hl; rw [h (t + 3) (by omega) (by omega)]; exact q8 s hs l hl
  · intro k hk; rw [h (t + 4) (by omega) (by omega)]; exact q9 k hk
  · intro k hk; rw [h (t + 5) (by omega) (by omega)]; exact q10 k hk
  · intro k hk; rw [h (t + 6) (by omega) (by omega)]; exact q11 k hk
  · intro k hk; rw [h (t + 7) (by omega) (by omega), h (t + 8) (by omega) (by omega)]; exact q12 k hk
/-- .. of the reference: in some slots of its own cell, and in the cells from 17 to 36 behind it -/
theorem xTM_congr {I J : xI} {m : Nat} {A : xAb} (h9 : J m 9 = I m 9) (h10 : J m 10 = I m 10) (h17 : J m 17 = I m 17) (h20 : J m 20 = I m 20) (h : ∀ o, m + 17 ≤ o → o ≤ m + 36 → ∀ k, J o k = I o k) (q : xTM I m A) : xTM J m A := by
  obtain ⟨⟨q1, q2, q3, q4⟩, q6, q7, q8, q9, q10, q11, q12⟩ := q
  refine ⟨⟨?_, ?_, ?_, ?_⟩, ?_, ?_, ?_, ?_, ?_, ?_, ?_⟩
  · rw [h9]; exact q1
  · rw [h10]; exact q2
  · rw [h20]; exact q3
  · rw [h17]; exact q4
  · intro k hk; rw [h (m + 17) (by omega) (by omega)]; exact q6 k hk
  · intro k hk; rw [h (m + 18) (by omega) (by omega)]; exact q7 k hk
  · intro s hs
    obtain ⟨q, r⟩ := q8 s hs
    refine ⟨?_, ?_⟩
    · intro l hl; rw [h (m + 20 + s) (by omega) (by omega)]; exact q l hl
    · rw [h (m + 20 + s) (by omega) (by omega)]; exact r
  · intro k hk; rw [h (m + 26) (by omega) (by omega)]; exact q9 k hk
  · intro k hk; rw [h (m + 27) (by omega) (by omega)]; exact q10 k hk
  · intro p hp k hk; rw [h (m + 29 + p) (by omega) (by omega)]; exact q11 p hp k hk
  · intro k hk; rw [h (m + 35) (by omega) (by omega), h (m + 36) (by omega) (by omega)]; exact q12 k hk
/-- a number between two bounds, as the reference asks it -/
theorem xp_in {I : xI} {L : xL} {a : Int32} {lo hi : Nat} (h1 : lo < 2147483648) (h2 : hi < 2147483648) : p_X9_in I L (Int32.toInt64 a) (Int64.ofNat lo) (Int64.ofNat hi) ↔ ((lo : Int) ≤ a.toInt ∧ a.toInt ≤ (hi : Int)) := by
  have e0 : (Int32.toInt64 a).toInt = a.toInt := Int32.toInt_toInt64 a
  have e1 : (Int64.ofNat lo).toInt = (lo : Int) := Int64.toInt_ofNat_of_lt (by omega)
  have e2 : (Int64.ofNat hi).toInt = (hi : Int) := Int64.toInt_ofNat_of_lt (by omega)
  have k1 : ((if Int32.toInt64 a < Int64.ofNat lo then -1 else if Int32.toInt64 a = Int64.ofNat lo then 0 else 1 : Int32) < 0) ↔ a.toInt < (lo : Int) := by
    have e := @Int64.lt_iff_toInt_lt (Int32.toInt64 a) (Int64.ofNat lo)
    rw [e0, e1] at e
    by_cases q : Int32.toInt64 a < Int64.ofNat lo
    · rw [if_pos q]; exact ⟨fun _ => e.mp q, fun _ => by decide⟩
    · rw [if_neg q]
      by_cases r : Int32.toInt64 a = Int64.ofNat lo
      · rw [if_pos r]; exact ⟨fun x => absurd x (by decide), fun x => absurd (e.mpr x) q⟩
      · rw [if_neg r]; exact ⟨fun x => absurd x (by decide), fun x => absurd (e.mpr x) q⟩
  have k2 : (0 < (if Int32.toInt64 a < Int64.ofNat hi then -1 else if Int32.toInt64 a = Int64.ofNat hi then 0 else 1 : Int32)) ↔ (hi : Int) < a.toInt := by
    have e := @Int64.lt_iff_toInt_lt (Int32.toInt64 a) (Int64.ofNat hi)
    have e' := @Int64.toInt_inj (Int32.toInt64 a) (Int64.ofNat hi)
    rw [e0, e2] at e e'
    by_cases q : Int32.toInt64 a < Int64.ofNat hi
    · rw [if_pos q]
      have := e.mp q
      exact ⟨fun x => absurd x (by decide), fun x => by omega⟩
    · rw [if_neg q]
      have q' : ¬ a.toInt < (hi : Int) := fun z => q (e.mpr z)
      by_cases r : Int32.toInt64 a = Int64.ofNat hi
      · rw [if_pos r]
        have := e'.mpr r
        exact ⟨fun x => absurd x (by decide), fun x => by omega⟩
      · rw [if_neg r]
        have r' : ¬ a.toInt = (hi : Int) := fun z => r (e'.mp z)
        exact ⟨fun x => by omega, fun x => by decide⟩
  unfold p_X9_in
  rw [k1, k2]
  omega
