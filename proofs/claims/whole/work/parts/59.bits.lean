/-! how many bits -/
def pcn (m : Nat) : Nat → Nat
  | 0 => 0
  | i + 1 => pcn m i + (if m.testBit i = true then 1 else 0)
theorem pcn_le (m : Nat) : ∀ i, pcn m i ≤ i
  | 0 => Nat.le_refl _
  | i + 1 => by
    have := pcn_le m i
    simp only [pcn]
    split <;> omega
theorem pcn_0 : ∀ i, pcn 0 i = 0
  | 0 => rfl
  | i + 1 => by simp only [pcn, pcn_0 i, Nat.zero_testBit]; rfl
theorem pcn_top {m n : Nat} (h : m < 2 ^ n) : ∀ i, n ≤ i → pcn m i = pcn m n := by
  intro i hi
  induction hi with
  | refl => rfl
  | @step k hk ih =>
    simp only [pcn]
    rw [ih, Nat.testBit_lt_two_pow (Nat.lt_of_lt_of_le h (Nat.pow_le_pow_right (by decide) hk)), if_neg (by decide), Nat.add_zero]
theorem pcn_congr {m m' : Nat} : ∀ i, (∀ j, j < i → m.testBit j = m'.testBit j) → pcn m i = pcn m' i
  | 0, _ => rfl
  | i + 1, h => by simp only [pcn]; rw [pcn_congr i (fun j hj => h j (by omega)), h i (by omega)]
theorem tb_s (m i : Nat) : m.testBit (i + 1) = (m / 2).testBit i := Nat.testBit_succ m i
theorem tb_0 (m : Nat) : m.testBit 0 = decide (m % 2 = 1) := Nat.testBit_zero m
theorem low_bit : ∀ m, 0 < m → ∃ j, m.testBit j = true ∧ ∀ i, (m &&& (m - 1)).testBit i = (m.testBit i && decide (i ≠ j)) := by
  intro m
  induction m using Nat.strongRecOn with
  | _ m ih =>
    intro h
    by_cases e : m % 2 = 1
    · refine ⟨0, by rw [tb_0, decide_eq_true e], fun i => ?_⟩
      rw [Nat.testBit_and]
      cases i with
      | zero => rw [tb_0, tb_0, decide_eq_false (show ¬ (m - 1) % 2 = 1 by omega)]; simp
      | succ i => rw [tb_s, tb_s, show (m - 1) / 2 = m / 2 from by omega]; simp
    · obtain ⟨j, h1, h2⟩ := ih (m / 2) (by omega) (by omega)
      refine ⟨j + 1, by rw [tb_s]; exact h1, fun i => ?_⟩
      rw [Nat.testBit_and]
      cases i with
      | zero => rw [tb_0, decide_eq_false e]; simp
      | succ i =>
        have := h2 i
        rw [Nat.testBit_and] at this
        rw [tb_s, tb_s, show (m - 1) / 2 = m / 2 - 1 from by omega, this]
        simp
theorem pcn_low {m n : Nat} (h : 0 < m) (hn : m < 2 ^ n) : pcn (m &&& (m - 1)) n + 1 = pcn m n := by
  obtain ⟨j, h1, h2⟩ := low_bit m h
  have hj : j < n := by
    refine Nat.lt_of_not_le fun q => ?_
    rw [Nat.testBit_lt_two_pow (Nat.lt_of_lt_of_le hn (Nat.pow_le_pow_right (by decide) q))] at h1
    exact absurd h1 (by decide)
  have key : ∀ i, pcn (m &&& (m - 1)) i + (if j < i then 1 else 0) = pcn m i := by
    intro i
    induction i with
    | zero => rfl
    | succ i ih =>
      simp only [pcn]
      rw [h2 i]
      by_cases e : i = j
      · subst e
        rw [if_neg (Nat.lt_irrefl _)] at ih
        rw [h1, decide_eq_false (by simp), if_pos (Nat.lt_succ_self i), if_pos rfl, if_neg (by decide)]
        omega
      · rw [decide_eq_true e, Bool.and_true]
        by_cases q : j < i
        · rw [if_pos q] at ih; rw [if_pos (show j < i + 1 by omega)]; omega
        · rw [if_neg q] at ih; rw [if_neg (show ¬ j < i + 1 by omega)]; omega
  have := key n
  rw [if_pos hj] at this
  exact this
theorem and_pred_lt {m : Nat} (h : 0 < m) : m &&& (m - 1) < m := Nat.lt_of_le_of_lt Nat.and_le_right (by omega)
theorem pow_31 {n : Nat} (hn : n ≤ 31) : 2 ^ n ≤ 2147483648 := Nat.pow_le_pow_right (show 0 < 2 by decide) hn
theorem t_bits {I : xI} {L : xL} {z : Bool × Bool × Nat} {m n : Nat} (hn : n ≤ 31) (hm : m < 2 ^ n) : xCd 1 192 [.int (Int32.ofNat m)] (xS I L z) (qP I L z (Int32.ofNat (pcn m n))) := by
  have hp := pow_31 hn
  refine c_X9_bits (g_X9_bits_0 (Nat.zero_le _) ?_)
  have key : ∀ u, ∀ k, u < 2 ^ n → k + pcn u n = pcn m n → h_X9_bits_4 0 (qP I L z (Int32.ofNat (pcn m n))) (0, 0) I L z (Int32.ofNat m) (Int32.ofNat k) (Int32.ofNat u) := by
    intro u
    induction u using Nat.strongRecOn with
    | _ u ih =>
      intro k hu hk
      refine g_X9_bits_4 (Nat.zero_le _) ?_
      by_cases e : u = 0
      · subst e
        rw [pcn_0] at hk
        rw [if_pos (show Int32.ofNat 0 = (0 : Int32) from rfl), show k = pcn m n from by omega]
        exact ⟨rfl, rfl⟩
      · have u0 : 0 < u := by omega
        have h1 : Int32.ofNat u - 1 = Int32.ofNat (u - 1) := xv_sub (b := 1) (by omega)
        rw [if_neg (show ¬ Int32.ofNat u = (0 : Int32) from fun q => e ((xv_eq (b := 0) (by omega) (by decide)).mp q)), h1, xv_and, show Int32.ofNat k + 1 = Int32.ofNat (k + 1) from xv_add k 1]
        have := pcn_low u0 hu
        exact ih _ (and_pred_lt u0) _ (Nat.lt_trans (and_pred_lt u0) hu) (by omega)
  exact key m 0 hm (by omega)
theorem f_bitCount64 : ∀ m, m < 64 → f_J6_bitCount_0f7a4 (fun _ _ => 0) (fun _ _ => 0) (Int32.ofNat m) = Int32.ofNat (pcn m 6) := by decide
theorem f_bitCount {I : xI} {L : xL} {m : Nat} (h : m < 64) : f_J6_bitCount_0f7a4 I L (Int32.ofNat m) = Int32.ofNat (pcn m 6) := f_bitCount64 m h
theorem cp_snoc {l : List Nat} {f : Nat → Bool} {i : Nat} (h : i < l.length) : (l.take (i + 1)).countP f = (l.take i).countP f + (if f (l.getD i 0) = true then 1 else 0) := by
  rw [take_snoc h, List.countP_append, List.countP_singleton]
theorem cp_le {l : List Nat} {f : Nat → Bool} {i : Nat} : (l.take i).countP f ≤ l.length := Nat.le_trans List.countP_le_length (by rw [List.length_take]; omega)
theorem cp_all {l : List Nat} {f : Nat → Bool} : l.countP f ≤ l.length := List.countP_le_length
/-- two sums over the sorts -/
def sum6 (f : Nat → Nat) : Nat → Nat
  | 0 => 0
  | i + 1 => sum6 f i + f i
theorem sum6_congr {f g : Nat → Nat} : ∀ n, (∀ i, i < n → f i = g i) → sum6 f n = sum6 g n
  | 0, _ => rfl
  | n + 1, h => by simp only [sum6]; rw [sum6_congr n (fun i hi => h i (by omega)), h n (by omega)]
theorem sum6_add {f g : Nat → Nat} : ∀ n, sum6 (fun i => f i + g i) n = sum6 f n + sum6 g n
  | 0 => rfl
  | n + 1 => by simp only [sum6]; rw [sum6_add n]; omega
theorem sum6_one {v : Nat} : ∀ n, sum6 (fun i => if i = v then 1 else 0) n = if v < n then 1 else 0
  | 0 => rfl
  | n + 1 => by
    simp only [sum6]
    rw [sum6_one n]
    by_cases e : n = v
    · rw [if_pos e, if_neg (show ¬ v < n by omega), if_pos (show v < n + 1 by omega)]
    · rw [if_neg e]
      by_cases q : v < n
      · rw [if_pos q, if_pos (show v < n + 1 by omega)]
      · rw [if_neg q, if_neg (show ¬ v < n + 1 by omega)]
theorem sum6_le {f g : Nat → Nat} : ∀ n, (∀ i, i < n → f i ≤ g i) → sum6 f n ≤ sum6 g n
  | 0, _ => Nat.le_refl _
  | n + 1, h => by
    have := sum6_le n (fun i hi => h i (by omega))
    have := h n (by omega)
    simp only [sum6]; omega
/-- counting by sorts -/
theorem cp_split {l : List Nat} {d : Nat → Nat} {Q : Nat → Bool} (h : ∀ w, w ∈ l → d w < 6) : l.countP (fun w => Q (d w)) = sum6 (fun s => if Q s = true then l.countP (fun w => decide (d w = s)) else 0) 6 := by
  induction l with
  | nil =>
    symm
    simp only [List.countP_nil, ite_self]
    rfl
  | cons a t ih =>
    have ih := ih (fun w hw => h w (List.mem_cons_of_mem _ hw))
    have ha := h a List.mem_cons_self
    rw [List.countP_cons, ih]
    have e : (fun s => if Q s = true then (a :: t).countP (fun w => decide (d w = s)) else 0) = fun s => (if Q s = true then t.countP (fun w => decide (d w = s)) else 0) + (if s = d a ∧ Q s = true then 1 else 0) := by
      funext s
      rw [List.countP_cons]
      by_cases q : Q s = true
      · rw [if_pos q, if_pos q]
        by_cases c : d a = s
        · rw [decide_eq_true c, if_pos rfl, if_pos ⟨c.symm, q⟩]
        · rw [decide_eq_false c, if_neg (by decide), if_neg (fun x => c x.1.symm)]
      · rw [if_neg q, if_neg q, if_neg (fun x => q x.2)]
    rw [e, sum6_add]
    congr 1
    by_cases q : Q (d a) = true
    · rw [if_pos q]
      have : sum6 (fun s => if s = d a ∧ Q s = true then 1 else 0) 6 = sum6 (fun s => if s = d a then 1 else 0) 6 := sum6_congr 6 (fun s _ => by
        by_cases c : s = d a
        · rw [if_pos ⟨c, by rw [c]; exact q⟩, if_pos c]
        · rw [if_neg (fun x => c x.1), if_neg c])
      rw [this, sum6_one, if_pos ha]
    · rw [if_neg q]
      have : sum6 (fun s => if s = d a ∧ Q s = true then 1 else 0) 6 = sum6 (fun _ => 0) 6 := sum6_congr 6 (fun s _ => by
        rw [if_neg (fun x => q (by rw [← x.1]; exact x.2))])
      rw [this]; rfl
