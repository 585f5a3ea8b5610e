/-! lists of worlds: a world is a number, three bits a place, the first place highest -/
theorem gd_take {l : List Nat} : ∀ {i k : Nat}, k < i → (l.take i).getD k 0 = l.getD k 0 := by
  induction l with
  | nil => intro i k _; simp
  | cons a t ih =>
    intro i k h
    cases i with
    | zero => omega
    | succ i =>
      cases k with
      | zero => rfl
      | succ k => exact ih (by omega)
theorem gd_ins {w : Nat} : ∀ {l : List Nat} {i : Nat} (k : Nat), i ≤ l.length → (l.take i ++ w :: l.drop i).getD k 0 = if k < i then l.getD k 0 else if k = i then w else l.getD (k - 1) 0
  | l, 0, 0, _ => by simp
  | l, 0, k + 1, _ => by simp
  | [], i + 1, _, h => by simp at h
  | a :: t, i + 1, 0, h => by simp
  | a :: t, i + 1, k + 1, h => by
    have ih := gd_ins (w := w) (l := t) (i := i) k (by simp at h; omega)
    show (t.take i ++ w :: t.drop i).getD k 0 = _
    rw [ih]
    by_cases e1 : k < i
    · rw [if_pos e1, if_pos (by omega)]; rfl
    · rw [if_neg e1, if_neg (show ¬ k + 1 < i + 1 by omega)]
      by_cases e2 : k = i
      · rw [if_pos e2, if_pos (show k + 1 = i + 1 by omega)]
      · rw [if_neg e2, if_neg (show ¬ k + 1 = i + 1 by omega)]
        obtain ⟨k, rfl⟩ : ∃ q, k = q + 1 := ⟨k - 1, by omega⟩
        rfl
theorem gd_snoc {w : Nat} {l : List Nat} (k : Nat) : (l ++ [w]).getD k 0 = if k < l.length then l.getD k 0 else if k = l.length then w else 0 := by
  have := gd_ins (w := w) (l := l) (i := l.length) k (Nat.le_refl _)
  rw [List.take_length, List.drop_length] at this
  rw [this]
  by_cases e1 : k < l.length
  · rw [if_pos e1, if_pos e1]
  · rw [if_neg e1, if_neg e1]
    by_cases e2 : k = l.length
    · rw [if_pos e2, if_pos e2]
    · rw [if_neg e2, if_neg e2, List.getD_eq_getElem?_getD, List.getElem?_eq_none (by omega)]; rfl
theorem take_snoc {l : List Nat} {i : Nat} (h : i < l.length) : l.take (i + 1) = l.take i ++ [l.getD i 0] := by
  rw [List.take_add_one, List.getD_eq_getElem?_getD, List.getElem?_eq_getElem h]; rfl
theorem gd_mem {l : List Nat} {i : Nat} (h : i < l.length) : l.getD i 0 ∈ l := by
  rw [List.getD_eq_getElem?_getD, List.getElem?_eq_getElem h]; exact List.getElem_mem h
theorem mem_gd {l : List Nat} {w : Nat} (h : w ∈ l) : ∃ i, i < l.length ∧ l.getD i 0 = w := by
  obtain ⟨i, hi, e⟩ := List.mem_iff_getElem.mp h
  exact ⟨i, hi, by rw [List.getD_eq_getElem?_getD, List.getElem?_eq_getElem hi]; exact e⟩
def srt (l : List Nat) : Prop := l.Pairwise (· < ·)
theorem srt_gd : ∀ {l : List Nat} {i j : Nat}, srt l → i < j → j < l.length → l.getD i 0 < l.getD j 0 := by
  intro l i j h hij hj
  rw [List.getD_eq_getElem?_getD, List.getD_eq_getElem?_getD, List.getElem?_eq_getElem hj, List.getElem?_eq_getElem (by omega)]
  exact List.pairwise_iff_getElem.mp h i j _ _ hij
/-- put where it belongs, unless it is there -/
def insW (w : Nat) : List Nat → List Nat
  | [] => [w]
  | a :: t => if w < a then w :: a :: t else if w = a then a :: t else a :: insW w t
theorem insW_at {w : Nat} : ∀ {l : List Nat} {i : Nat}, i ≤ l.length → (∀ j, j < i → l.getD j 0 < w) → (i = l.length ∨ w < l.getD i 0) → insW w l = l.take i ++ w :: l.drop i
  | [], i, h, _, _ => by
    have : i = 0 := by simpa using h
    subst this; rfl
  | a :: t, 0, _, _, k => by
    have k : w < a := by
      rcases k with k | k
      · simp at k
      · exact k
    show (if w < a then _ else _) = _
    rw [if_pos k]; rfl
  | a :: t, i + 1, h, f, k => by
    have g : a < w := f 0 (by omega)
    show (if w < a then _ else if w = a then _ else a :: insW w t) = _
    rw [if_neg (by omega), if_neg (by omega), insW_at (l := t) (i := i) (by simp at h; omega) (fun j hj => f (j + 1) (by omega)) (by
      rcases k with k | k
      · left; simp at k; omega
      · right; exact k)]
    rfl
theorem insW_same {w : Nat} : ∀ {l : List Nat}, srt l → w ∈ l → insW w l = l
  | [], _, h => by simp at h
  | a :: t, s, h => by
    have s' := List.pairwise_cons.mp s
    show (if w < a then _ else if w = a then _ else a :: insW w t) = _
    by_cases e : w = a
    · rw [if_neg (by omega), if_pos e]
    · have ht : w ∈ t := by
        rcases List.mem_cons.mp h with h | h
        · exact absurd h e
        · exact h
      have := s'.1 w ht
      rw [if_neg (by omega), if_neg e, insW_same s'.2 ht]
theorem insW_mem {w v : Nat} : ∀ {l : List Nat}, v ∈ insW w l ↔ v = w ∨ v ∈ l
  | [] => by simp [insW]
  | a :: t => by
    have ih := insW_mem (w := w) (v := v) (l := t)
    show v ∈ (if w < a then _ else if w = a then _ else a :: insW w t) ↔ _
    by_cases e1 : w < a
    · rw [if_pos e1]; simp
    · rw [if_neg e1]
      by_cases e2 : w = a
      · rw [if_pos e2, e2]; simp
      · rw [if_neg e2, List.mem_cons, ih]; simp; grind
theorem insW_srt {w : Nat} : ∀ {l : List Nat}, srt l → srt (insW w l)
  | [], _ => by simp [insW, srt]
  | a :: t, s => by
    have s' := List.pairwise_cons.mp s
    show srt (if w < a then _ else if w = a then _ else a :: insW w t)
    by_cases e1 : w < a
    · rw [if_pos e1]
      refine List.pairwise_cons.mpr ⟨fun v hv => ?_, s⟩
      rcases List.mem_cons.mp hv with rfl | hv
      · exact e1
      · have := s'.1 v hv; omega
    · rw [if_neg e1]
      by_cases e2 : w = a
      · rw [if_pos e2]; exact s
      · rw [if_neg e2]
        refine List.pairwise_cons.mpr ⟨fun v hv => ?_, insW_srt s'.2⟩
        rcases insW_mem.mp hv with rfl | hv
        · omega
        · exact s'.1 v hv
theorem insW_len {w : Nat} : ∀ {l : List Nat}, (insW w l).length ≤ l.length + 1
  | [] => by simp [insW]
  | a :: t => by
    have ih := insW_len (w := w) (l := t)
    show (if w < a then _ else if w = a then _ else a :: insW w t).length ≤ _
    by_cases e1 : w < a
    · rw [if_pos e1]; simp
    · rw [if_neg e1]
      by_cases e2 : w = a
      · rw [if_pos e2]; simp
      · rw [if_neg e2]; simp; exact ih
/-- the sort at a place of a world; a row as a world -/
def wd (w p : Nat) : Nat := w >>> (15 - 3 * p) &&& 7
def wc (f : Nat → Nat) : Nat → Nat
  | 0 => 0
  | n + 1 => wc f n + f n * 2 ^ (15 - 3 * n)
theorem wd_eq (w p : Nat) : wd w p = w / 2 ^ (15 - 3 * p) % 8 := by
  unfold wd
  rw [Nat.shiftRight_eq_div_pow]
  exact Nat.and_two_pow_sub_one_eq_mod _ 3
theorem wd_lt (w p : Nat) : wd w p < 8 := by rw [wd_eq]; omega
theorem wd_wc {f : Nat → Nat} {n p : Nat} (hn : n ≤ 6) (hf : ∀ i, i < n → f i < 8) (hp : p < 6) : wd (wc f n) p = if p < n then f p else 0 := by
  rw [wd_eq]
  have h0 := hf 0; have h1 := hf 1; have h2 := hf 2; have h3 := hf 3; have h4 := hf 4; have h5 := hf 5
  have hk : n = 0 ∨ n = 1 ∨ n = 2 ∨ n = 3 ∨ n = 4 ∨ n = 5 ∨ n = 6 := by omega
  have hq : p = 0 ∨ p = 1 ∨ p = 2 ∨ p = 3 ∨ p = 4 ∨ p = 5 := by omega
  rcases hk with rfl | rfl | rfl | rfl | rfl | rfl | rfl <;> rcases hq with rfl | rfl | rfl | rfl | rfl | rfl <;>
    simp only [wc, Nat.reduceMul, Nat.reduceSub, Nat.reducePow, Nat.reduceLT, if_true, if_false, Nat.zero_add, Nat.lt_irrefl] <;> omega
theorem wc_lt {f : Nat → Nat} {n : Nat} (hn : n ≤ 6) (hf : ∀ i, i < n → f i < 8) : wc f n < 262144 := by
  have h0 := hf 0; have h1 := hf 1; have h2 := hf 2; have h3 := hf 3; have h4 := hf 4; have h5 := hf 5
  have hk : n = 0 ∨ n = 1 ∨ n = 2 ∨ n = 3 ∨ n = 4 ∨ n = 5 ∨ n = 6 := by omega
  rcases hk with rfl | rfl | rfl | rfl | rfl | rfl | rfl <;> simp only [wc, Nat.reduceMul, Nat.reduceSub, Nat.reducePow] <;> omega
theorem wc_congr {f g : Nat → Nat} : ∀ n, (∀ i, i < n → f i = g i) → wc f n = wc g n
  | 0, _ => rfl
  | n + 1, h => by simp only [wc]; rw [wc_congr n (fun i hi => h i (by omega)), h n (by omega)]
theorem wc_dvd {f : Nat → Nat} : ∀ n, n ≤ 5 → ∃ q, wc f n = 2 ^ (18 - 3 * n) * q
  | 0, _ => ⟨0, rfl⟩
  | n + 1, h => by
    obtain ⟨q, e⟩ := wc_dvd (f := f) n (by omega)
    refine ⟨8 * q + f n, ?_⟩
    simp only [wc]
    rw [e, show 18 - 3 * n = (15 - 3 * n) + 3 from by omega, show 18 - 3 * (n + 1) = 15 - 3 * n from by omega, Nat.pow_add]
    grind
theorem wc_or {f : Nat → Nat} {n : Nat} (hn : n < 6) (hf : f n < 8) : wc f n ||| (f n &&& 7) * 2 ^ (15 - 3 * n) = wc f (n + 1) := by
  obtain ⟨q, e⟩ := wc_dvd (f := f) n (by omega)
  have e7 : f n &&& 7 = f n := by
    rw [show (7 : Nat) = 2 ^ 3 - 1 from rfl, Nat.and_two_pow_sub_one_eq_mod]; omega
  simp only [wc]
  rw [e7, e]
  refine (Nat.two_pow_add_eq_or_of_lt ?_ q).symm
  rw [show 18 - 3 * n = 3 + (15 - 3 * n) from by omega, Nat.pow_add]
  exact Nat.mul_lt_mul_of_pos_right hf (Nat.two_pow_pos _)
/-- the order of the numbers is the order of the rows -/
theorem wc_ord {f g : Nat → Nat} {n p : Nat} (hn : n ≤ 6) (hf : ∀ i, i < n → f i < 8) (hg : ∀ i, i < n → g i < 8) (hp : p < n) (he : ∀ q, q < p → f q = g q) (hl : f p < g p) : wc f n < wc g n := by
  have f0 := hf 0; have f1 := hf 1; have f2 := hf 2; have f3 := hf 3; have f4 := hf 4; have f5 := hf 5
  have g0 := hg 0; have g1 := hg 1; have g2 := hg 2; have g3 := hg 3; have g4 := hg 4; have g5 := hg 5
  have e0 := he 0; have e1 := he 1; have e2 := he 2; have e3 := he 3; have e4 := he 4
  have hk : n = 1 ∨ n = 2 ∨ n = 3 ∨ n = 4 ∨ n = 5 ∨ n = 6 := by omega
  have hq : p = 0 ∨ p = 1 ∨ p = 2 ∨ p = 3 ∨ p = 4 ∨ p = 5 := by omega
  rcases hk with rfl | rfl | rfl | rfl | rfl | rfl <;> rcases hq with rfl | rfl | rfl | rfl | rfl | rfl <;>
    simp only [wc, Nat.reduceMul, Nat.reduceSub, Nat.reducePow, Nat.zero_add] <;> omega
theorem wc_wd {w n : Nat} (hn : n ≤ 6) {f : Nat → Nat} (hf : ∀ i, i < n → f i < 8) (hw : w = wc f n) : wc (wd w) n = w := by
  subst hw
  exact wc_congr n fun i hi => by rw [wd_wc hn hf (by omega), if_pos hi]
