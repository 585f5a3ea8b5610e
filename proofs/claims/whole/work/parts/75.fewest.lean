/-! what questions can tell: a set of worlds, by so many questions -/
def oneS (S : Nat → Prop) : Prop := ∀ i j, S i → S j → i = j
def Tl (Qs : (Nat → Nat) → Prop) : Nat → (Nat → Prop) → Prop
  | 0, S => oneS S
  | b + 1, S => oneS S ∨ ∃ lab, Qs lab ∧ ∀ v, Tl Qs b (fun i => S i ∧ lab i = v)
theorem oneS_sub {S S' : Nat → Prop} (h : ∀ i, S' i → S i) (q : oneS S) : oneS S' := fun i j a b => q i j (h i a) (h j b)
theorem Tl_sub {Qs : (Nat → Nat) → Prop} : ∀ b {S S' : Nat → Prop}, (∀ i, S' i → S i) → Tl Qs b S → Tl Qs b S'
  | 0, _, _, h, q => oneS_sub h q
  | b + 1, S, S', h, q => by
    rcases q with q | ⟨lab, a, c⟩
    · exact Or.inl (oneS_sub h q)
    · exact Or.inr ⟨lab, a, fun v => Tl_sub b (fun i x => ⟨h i x.1, x.2⟩) (c v)⟩
theorem Tl_one {Qs : (Nat → Nat) → Prop} {S : Nat → Prop} (h : oneS S) : ∀ b, Tl Qs b S
  | 0 => h
  | _ + 1 => Or.inl h
theorem Tl_s {Qs : (Nat → Nat) → Prop} : ∀ b {S : Nat → Prop}, Tl Qs b S → Tl Qs (b + 1) S
  | 0, _, q => Or.inl q
  | b + 1, _, q => by
    rcases q with q | ⟨lab, a, c⟩
    · exact Or.inl q
    · exact Or.inr ⟨lab, a, fun v => Tl_s b (c v)⟩
theorem Tl_ref {Qs Qs' : (Nat → Nat) → Prop} {S0 : Nat → Prop} (h : ∀ lab, Qs lab → ∃ lab', Qs' lab' ∧ ∀ i j, S0 i → S0 j → lab' i = lab' j → lab i = lab j) : ∀ b {S : Nat → Prop}, (∀ i, S i → S0 i) → Tl Qs b S → Tl Qs' b S
  | 0, _, _, q => q
  | b + 1, S, h0, q => by
    rcases q with q | ⟨lab, a, c⟩
    · exact Or.inl q
    · obtain ⟨lab', a', e⟩ := h lab a
      refine Or.inr ⟨lab', a', fun v' => ?_⟩
      by_cases ne : ∃ i, S i ∧ lab' i = v'
      · obtain ⟨i0, s0, l0⟩ := ne
        refine Tl_ref h b (fun i x => h0 i x.1) (Tl_sub b (fun i x => ⟨x.1, ?_⟩) (c (lab i0)))
        exact e i i0 (h0 i x.1) (h0 i0 s0) (x.2.trans l0.symm)
      · exact Tl_one (fun i j x _ => absurd ⟨i, x⟩ ne) b
theorem Tl_strict {Qs : (Nat → Nat) → Prop} : ∀ b {S : Nat → Prop}, ¬ oneS S → Tl Qs (b + 1) S → ∃ lab, Qs lab ∧ (∀ v, ¬ ∀ i, S i → lab i = v) ∧ ∀ v, Tl Qs b (fun i => S i ∧ lab i = v)
  | b, S, hn, q => by
    rcases q with q | ⟨lab, a, c⟩
    · exact absurd q hn
    · by_cases e : ∃ v, ∀ i, S i → lab i = v
      · obtain ⟨v, hv⟩ := e
        have hb : Tl Qs b S := Tl_sub b (fun i x => ⟨x, hv i x⟩) (c v)
        cases b with
        | zero => exact absurd hb hn
        | succ b =>
          obtain ⟨lab2, a2, c2, d2⟩ := Tl_strict b hn hb
          exact ⟨lab2, a2, c2, fun v => Tl_s b (d2 v)⟩
      · exact ⟨lab, a, fun v hv => e ⟨v, hv⟩, c⟩
/-- how many of the first n -/
def cb (f : Nat → Bool) : Nat → Nat
  | 0 => 0
  | i + 1 => cb f i + (if f i = true then 1 else 0)
theorem pcn_cb (x : Nat) : ∀ n, pcn x n = cb (fun i => x.testBit i) n
  | 0 => rfl
  | n + 1 => by simp only [pcn, cb]; rw [pcn_cb x n]
theorem cb_congr {f g : Nat → Bool} : ∀ n, (∀ i, i < n → f i = g i) → cb f n = cb g n
  | 0, _ => rfl
  | n + 1, h => by simp only [cb]; rw [cb_congr n (fun i hi => h i (by omega)), h n (by omega)]
theorem cb_zero {f : Nat → Bool} : ∀ n, (∀ i, i < n → f i = false) → cb f n = 0
  | 0, _ => rfl
  | n + 1, h => by simp only [cb]; rw [cb_zero n (fun i hi => h i (by omega)), h n (by omega)]; rfl
theorem cb_one {f : Nat → Bool} : ∀ n, (∀ i j, i < n → j < n → f i = true → f j = true → i = j) → cb f n ≤ 1
  | 0, _ => Nat.zero_le _
  | n + 1, h => by
    simp only [cb]
    by_cases e : f n = true
    · rw [if_pos e, cb_zero n (fun i hi => by
        cases c : f i with
        | false => rfl
        | true => have := h i n (by omega) (by omega) c e; omega)]
      exact Nat.le_refl _
    · rw [if_neg e]
      exact cb_one n (fun i j a b => h i j (by omega) (by omega))
theorem cb_le1 {f : Nat → Bool} : ∀ n, cb f n ≤ 1 → ∀ i j, i < n → j < n → f i = true → f j = true → i = j
  | 0, _, i, _, h, _ => absurd h (Nat.not_lt_zero _)
  | n + 1, h, i, j, hi, hj => by
    simp only [cb] at h
    intro a b
    have pos : ∀ k, k < n → f k = true → 0 < cb f n := by
      intro k hk hf
      have : ∀ m, k < m → 0 < cb f m := by
        intro m hm
        induction m with
        | zero => omega
        | succ m ih =>
          simp only [cb]
          by_cases c : k = m
          · subst c; rw [if_pos hf]; omega
          · have := ih (by omega); omega
      exact this n hk
    by_cases ei : i = n <;> by_cases ej : j = n
    · omega
    · subst ei
      rw [if_pos a] at h
      have := pos j (by omega) b
      omega
    · subst ej
      rw [if_pos b] at h
      have := pos i (by omega) a
      omega
    · refine cb_le1 n ?_ i j (by omega) (by omega) a b
      split at h <;> omega
theorem cb_split {f : Nat → Bool} {lab : Nat → Nat} {K : Nat} : ∀ n, (∀ i, i < n → f i = true → lab i < K) → cb f n = sum6 (fun v => cb (fun i => f i && decide (lab i = v)) n) K
  | 0, _ => by
    symm
    have : ∀ k, sum6 (fun v => cb (fun i => f i && decide (lab i = v)) 0) k = 0 := by
      intro k
      induction k with
      | zero => rfl
      | succ k ih => simp only [sum6, cb] at ih ⊢; omega
    exact this K
  | n + 1, h => by
    have ih := cb_split (f := f) (lab := lab) (K := K) n (fun i hi => h i (by omega))
    simp only [cb]
    have e : (fun v => cb (fun i => f i && decide (lab i = v)) n + (if (f n && decide (lab n = v)) = true then 1 else 0)) = fun v => (fun v => cb (fun i => f i && decide (lab i = v)) n) v + (fun v => if (f n && decide (lab n = v)) = true then 1 else 0) v := rfl
    rw [e, sum6_add, ← ih]
    congr 1
    by_cases c : f n = true
    · rw [if_pos c]
      have hk := h n (by omega) c
      have : sum6 (fun v => if (f n && decide (lab n = v)) = true then 1 else 0) K = sum6 (fun v => if v = lab n then 1 else 0) K := sum6_congr K (fun v _ => by
        rw [c, Bool.true_and]
        by_cases d : lab n = v
        · rw [if_pos (decide_eq_true d), if_pos d.symm]
        · rw [if_neg (by rw [decide_eq_false d]; decide), if_neg (fun x => d x.symm)])
      rw [this, sum6_one, if_pos hk]
    · have c0 : f n = false := by cases x : f n with | true => exact absurd x c | false => rfl
      rw [if_neg c]
      have : sum6 (fun v => if (f n && decide (lab n = v)) = true then 1 else 0) K = sum6 (fun _ => 0) K := sum6_congr K (fun v _ => by
        rw [c0, Bool.false_and, if_neg (by decide)])
      rw [this]
      have : ∀ k, sum6 (fun _ => 0) k = 0 := by
        intro k
        induction k with
        | zero => rfl
        | succ k ih => simp only [sum6, ih]
      rw [this]
theorem sum6_mul {f : Nat → Nat} {c : Nat} : ∀ n, sum6 (fun v => f v * c) n = sum6 f n * c
  | 0 => by simp [sum6]
  | n + 1 => by simp only [sum6]; rw [sum6_mul n, Nat.add_mul]
/-- a set that is told is no greater -/
theorem Tl_count {Qs : (Nat → Nat) → Prop} {m M : Nat} (hM : 1 ≤ M) (h : ∀ lab, Qs lab → ∃ (K : Nat) (seen : Nat → Bool), (∀ i, i < m → lab i < K ∧ seen (lab i) = true) ∧ sum6 (fun v => if seen v = true then 1 else 0) K ≤ M) : ∀ b {f : Nat → Bool}, Tl Qs b (fun i => i < m ∧ f i = true) → cb f m ≤ M ^ b
  | 0, f, q => cb_one m (fun i j a b c d => q i j ⟨a, c⟩ ⟨b, d⟩)
  | b + 1, f, q => by
    have pos : 1 ≤ M ^ (b + 1) := Nat.pow_pos (by omega)
    rcases q with q | ⟨lab, a, c⟩
    · exact Nat.le_trans (cb_one m (fun i j a b c d => q i j ⟨a, c⟩ ⟨b, d⟩)) pos
    · obtain ⟨K, seen, k1, k2⟩ := h lab a
      rw [cb_split (lab := lab) (K := K) m (fun i hi _ => (k1 i hi).1)]
      refine Nat.le_trans (sum6_le (g := fun v => (if seen v = true then 1 else 0) * M ^ b) K (fun v _ => ?_)) ?_
      · by_cases s : seen v = true
        · rw [if_pos s, Nat.one_mul]
          refine Tl_count hM h b (Tl_sub b (fun i x => ?_) (c v))
          have := (Bool.and_eq_true _ _).mp x.2
          exact ⟨⟨x.1, this.1⟩, of_decide_eq_true this.2⟩
        · rw [if_neg s, Nat.zero_mul, cb_zero m (fun i hi => by
            cases x : f i && decide (lab i = v) with
            | false => rfl
            | true =>
              have := of_decide_eq_true ((Bool.and_eq_true _ _).mp x).2
              exact absurd (by rw [← this]; exact (k1 i hi).2) s)]
          exact Nat.le_refl _
      · rw [sum6_mul, Nat.pow_succ, Nat.mul_comm (M ^ b) M]
        exact Nat.mul_le_mul_right _ k2
