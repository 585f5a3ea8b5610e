/-! rows of sorts in order: all arrangements of so many of each sort; each is the next of the one ahead -/
def mixD (c : Nat → Nat) (s : Nat) : Nat → Nat := fun t => if t = s then c t - 1 else c t
def mixB (M : (Nat → Nat) → List (List Nat)) (c : Nat → Nat) (s : Nat) : List (List Nat) := if 0 < c s then (M (mixD c s)).map (fun r => s :: r) else []
def mixP (M : (Nat → Nat) → List (List Nat)) (c : Nat → Nat) : Nat → List (List Nat)
  | 0 => []
  | s + 1 => mixP M c s ++ mixB M c s
def mixR : Nat → (Nat → Nat) → List (List Nat)
  | 0, _ => [[]]
  | m + 1, c => mixP (mixR m) c 6
def mixS (c : Nat → Nat) : Nat → Nat
  | 0 => 0
  | s + 1 => mixS c s + c s
theorem mixS_6 (c : Nat → Nat) : mixS c 6 = c 0 + c 1 + c 2 + c 3 + c 4 + c 5 := by simp only [mixS]; omega
theorem mixS_D {c : Nat → Nat} {s : Nat} (h : 0 < c s) : ∀ t, mixS c t = mixS (mixD c s) t + (if s < t then 1 else 0)
  | 0 => by simp [mixS]
  | t + 1 => by
    have ih := mixS_D h t
    simp only [mixS, mixD] at ih ⊢
    by_cases e : t = s
    · subst e
      rw [if_neg (by omega)] at ih
      rw [if_pos rfl, if_pos (by omega)]
      omega
    · rw [if_neg e]
      by_cases q : s < t
      · rw [if_pos q] at ih; rw [if_pos (by omega)]; omega
      · rw [if_neg q] at ih; rw [if_neg (by omega)]; omega
def mixF : Nat → Nat
  | 0 => 1
  | n + 1 => (n + 1) * mixF n
theorem mixP_len {M : (Nat → Nat) → List (List Nat)} {c : Nat → Nat} {f : Nat} (h : ∀ s, 0 < c s → s < 6 → (M (mixD c s)).length ≤ f) : ∀ s, s ≤ 6 → (mixP M c s).length ≤ mixS c s * f
  | 0, _ => by simp [mixP]
  | s + 1, hs => by
    have ih := mixP_len h s (by omega)
    simp only [mixP, mixS, mixB, List.length_append]
    rw [Nat.add_mul]
    by_cases e : 0 < c s
    · rw [if_pos e, List.length_map]
      have := h s e (by omega)
      have : 1 * f ≤ c s * f := Nat.mul_le_mul_right f e
      omega
    · rw [if_neg e, List.length_nil]; omega
theorem mixR_len : ∀ m c, mixS c 6 = m → (mixR m c).length ≤ mixF m
  | 0, c, _ => by simp [mixR, mixF]
  | m + 1, c, h => by
    have := mixP_len (M := mixR m) (c := c) (f := mixF m) (fun s hs h6 => mixR_len m _ (by
      have := mixS_D hs 6
      rw [if_pos h6] at this
      omega)) 6 (by omega)
    rw [h] at this
    exact this
/-- what a row of it is -/
theorem mixP_mem {M : (Nat → Nat) → List (List Nat)} {c : Nat → Nat} {r : List Nat} : ∀ s, r ∈ mixP M c s → ∃ u t, u < s ∧ 0 < c u ∧ t ∈ M (mixD c u) ∧ r = u :: t
  | 0, h => by simp [mixP] at h
  | s + 1, h => by
    simp only [mixP, List.mem_append] at h
    rcases h with h | h
    · obtain ⟨u, t, a, b, d, e⟩ := mixP_mem s h
      exact ⟨u, t, by omega, b, d, e⟩
    · unfold mixB at h
      by_cases e : 0 < c s
      · rw [if_pos e, List.mem_map] at h
        obtain ⟨t, h1, h2⟩ := h
        exact ⟨s, t, by omega, e, h1, h2.symm⟩
      · rw [if_neg e] at h; simp at h
theorem mixR_mem : ∀ m c r, mixS c 6 = m → r ∈ mixR m c → r.length = m ∧ (∀ v, v ∈ r → v < 6) ∧ ∀ v, v < 6 → r.countP (fun x => decide (x = v)) = c v
  | 0, c, r, h, hr => by
    simp only [mixR, List.mem_singleton] at hr
    subst hr
    rw [mixS_6] at h
    refine ⟨rfl, by simp, fun v hv => ?_⟩
    have : v = 0 ∨ v = 1 ∨ v = 2 ∨ v = 3 ∨ v = 4 ∨ v = 5 := by omega
    rcases this with rfl | rfl | rfl | rfl | rfl | rfl <;> simp <;> omega
  | m + 1, c, r, h, hr => by
    obtain ⟨u, t, h1, h2, h3, rfl⟩ := mixP_mem 6 hr
    have := mixS_D h2 6
    rw [if_pos h1] at this
    obtain ⟨a, b, d⟩ := mixR_mem m (mixD c u) t (by omega) h3
    refine ⟨by simp [a], ?_, ?_⟩
    · intro v hv
      rcases List.mem_cons.mp hv with rfl | hv
      · exact h1
      · exact b v hv
    · intro v hv
      have q := d v hv
      rw [List.countP_cons, q]
      unfold mixD
      by_cases e : v = u
      · subst e
        simp
        omega
      · rw [if_neg e, if_neg (by simp; omega)]
        omega
/-- all are unlike -/
theorem mixP_nodup {M : (Nat → Nat) → List (List Nat)} {c : Nat → Nat} (h : ∀ s, 0 < c s → s < 6 → (M (mixD c s)).Nodup) : ∀ s, s ≤ 6 → (mixP M c s).Nodup
  | 0, _ => by simp [mixP]
  | s + 1, hs => by
    have ih := mixP_nodup h s (by omega)
    simp only [mixP]
    rw [List.nodup_append]
    refine ⟨ih, ?_, ?_⟩
    · unfold mixB
      by_cases e : 0 < c s
      · rw [if_pos e]
        refine List.Pairwise.map _ ?_ (h s e (by omega))
        intro a b hab q
        exact hab (List.cons.inj q).2
      · rw [if_neg e]; exact List.Pairwise.nil
    · intro a ha b hb q
      obtain ⟨u, t, h1, _, _, rfl⟩ := mixP_mem s ha
      unfold mixB at hb
      by_cases e : 0 < c s
      · rw [if_pos e, List.mem_map] at hb
        obtain ⟨t', _, rfl⟩ := hb
        have := (List.cons.inj q).1
        omega
      · rw [if_neg e] at hb; simp at hb
theorem mixR_nodup : ∀ m c, mixS c 6 = m → (mixR m c).Nodup
  | 0, c, _ => by simp [mixR]
  | m + 1, c, h => mixP_nodup (M := mixR m) (c := c) (fun s hs h6 => mixR_nodup m _ (by
      have := mixS_D hs 6
      rw [if_pos h6] at this
      omega)) 6 (by omega)
/-- the least and the greatest row -/
def ascF (c : Nat → Nat) (k : Nat) : Nat := if k < c 0 then 0 else if k < c 0 + c 1 then 1 else if k < c 0 + c 1 + c 2 then 2 else if k < c 0 + c 1 + c 2 + c 3 then 3 else if k < c 0 + c 1 + c 2 + c 3 + c 4 then 4 else 5
def dscF (c : Nat → Nat) (k : Nat) : Nat := if k < c 5 then 5 else if k < c 5 + c 4 then 4 else if k < c 5 + c 4 + c 3 then 3 else if k < c 5 + c 4 + c 3 + c 2 then 2 else if k < c 5 + c 4 + c 3 + c 2 + c 1 then 1 else 0
/-- the next row -/
def nxF (n i j : Nat) (r : Nat → Nat) (k : Nat) : Nat := if k < i then r k else if k = i then r j else if n + i - k = j then r i else r (n + i - k)
def isNx (n : Nat) (r r' : Nat → Nat) : Prop := ∃ i j, i < j ∧ j < n ∧ r i < r (i + 1) ∧ (∀ k, i < k → k + 1 < n → r (k + 1) ≤ r k) ∧ r i < r j ∧ (∀ k, j < k → k < n → r k ≤ r i) ∧ ∀ k, k < n → r' k = nxF n i j r k
def gd (r : List Nat) : Nat → Nat := fun k => r.getD k 0
theorem gd_0 (s : Nat) (t : List Nat) : gd (s :: t) 0 = s := rfl
theorem gd_s (s : Nat) (t : List Nat) (k : Nat) : gd (s :: t) (k + 1) = gd t k := rfl
theorem isNx_cons {n : Nat} {s : Nat} {t t' : List Nat} (h : isNx n (gd t) (gd t')) : isNx (n + 1) (gd (s :: t)) (gd (s :: t')) := by
  obtain ⟨i, j, h1, h2, h3, h4, h5, h6, h7⟩ := h
  refine ⟨i + 1, j + 1, by omega, by omega, h3, ?_, h5, ?_, ?_⟩
  · intro k hk hk2
    obtain ⟨k, rfl⟩ : ∃ q, k = q + 1 := ⟨k - 1, by omega⟩
    exact h4 k (by omega) (by omega)
  · intro k hk hk2
    obtain ⟨k, rfl⟩ : ∃ q, k = q + 1 := ⟨k - 1, by omega⟩
    exact h6 k (by omega) (by omega)
  · intro k hk
    cases k with
    | zero =>
      unfold nxF
      rw [if_pos (by omega)]; rfl
    | succ k =>
      rw [gd_s, h7 k (by omega)]
      unfold nxF
      rw [show n + 1 + (i + 1) - (k + 1) = (n + i - k) + 1 from by omega]
      simp only [gd_s, Nat.add_lt_add_iff_right, Nat.add_right_cancel_iff]
def chn (R : List Nat → List Nat → Prop) : List (List Nat) → Prop
  | a :: b :: t => R a b ∧ chn R (b :: t)
  | _ => True
theorem chn_append {R : List Nat → List Nat → Prop} : ∀ {l l' : List (List Nat)}, chn R l → chn R l' → (∀ a b, l.getLast? = some a → l'.head? = some b → R a b) → chn R (l ++ l')
  | [], _, _, h, _ => h
  | [a], [], _, _, _ => trivial
  | [a], b :: t, _, h, k => ⟨k a b rfl rfl, h⟩
  | a :: b :: t, l', ⟨h1, h2⟩, h, k => ⟨h1, chn_append (l := b :: t) h2 h (fun x y e => k x y (by rw [List.getLast?_cons_cons]; exact e))⟩
theorem chn_map {R R' : List Nat → List Nat → Prop} {f : List Nat → List Nat} (hf : ∀ a b, R a b → R' (f a) (f b)) : ∀ {l : List (List Nat)}, chn R l → chn R' (l.map f)
  | [], _ => trivial
  | [_], _ => trivial
  | _ :: b :: t, ⟨h1, h2⟩ => ⟨hf _ _ h1, chn_map hf (l := b :: t) h2⟩
theorem chn_at {R : List Nat → List Nat → Prop} : ∀ {l : List (List Nat)} (i : Nat), chn R l → i + 1 < l.length → R (l.getD i []) (l.getD (i + 1) [])
  | [], _, _, h => absurd h (by simp)
  | [_], _, _, h => absurd h (by simp)
  | _ :: b :: t, 0, h, _ => h.1
  | _ :: b :: t, i + 1, h, q => chn_at (l := b :: t) i h.2 (by simp at q ⊢; omega)
def gtS (c : Nat → Nat) (u : Nat) : Nat := (if u < 1 then c 1 else 0) + (if u < 2 then c 2 else 0) + (if u < 3 then c 3 else 0) + (if u < 4 then c 4 else 0) + (if u < 5 then c 5 else 0)
theorem dscF_le (c : Nat → Nat) (k : Nat) : dscF c (k + 1) ≤ dscF c k := by
  unfold dscF
  (repeat' split) <;> omega
theorem six {v : Nat} (h : v < 6) : v = 0 ∨ v = 1 ∨ v = 2 ∨ v = 3 ∨ v = 4 ∨ v = 5 := by omega
theorem gtS_D {c : Nat → Nat} {u v : Nat} (hu : u < 6) (hv : v < 6) (cu : 0 < c u) : gtS c v = gtS (mixD c u) v + (if v < u then 1 else 0) := by
  rcases six hu with rfl | rfl | rfl | rfl | rfl | rfl <;> rcases six hv with rfl | rfl | rfl | rfl | rfl | rfl <;>
    simp only [gtS, mixD, Nat.reduceLT, Nat.reduceEqDiff, if_true, if_false, Nat.lt_irrefl, Nat.not_lt_zero] <;> omega
theorem dsc_iff {c : Nat → Nat} {q v : Nat} (hv : v < 6) (hq : q < c 0 + c 1 + c 2 + c 3 + c 4 + c 5) : dscF c q = v ↔ (gtS c v ≤ q ∧ q < gtS c v + c v) := by
  rcases six hv with rfl | rfl | rfl | rfl | rfl | rfl <;>
    simp only [gtS, dscF, Nat.reduceLT, if_true, if_false, Nat.lt_irrefl] <;> (repeat' split) <;> omega
theorem dscF_lt (c : Nat → Nat) (q : Nat) : dscF c q < 6 := by
  unfold dscF
  (repeat' split) <;> omega
theorem gtS_gap {c : Nat → Nat} {u s : Nat} (hus : u < s) (hs : s < 6) (hv : ∀ v, u < v → v < s → c v = 0) : gtS c u = gtS c s + c s := by
  have e1 := hv 1; have e2 := hv 2; have e3 := hv 3; have e4 := hv 4
  have hu : u = 0 ∨ u = 1 ∨ u = 2 ∨ u = 3 ∨ u = 4 := by omega
  rcases six hs with rfl | rfl | rfl | rfl | rfl | rfl <;> rcases hu with rfl | rfl | rfl | rfl | rfl <;> first
    | omega
    | (simp only [gtS, Nat.reduceLT, if_true, if_false, Nat.lt_irrefl, Nat.not_lt_zero, Nat.zero_add, Nat.add_zero] <;> omega)
theorem mixD_at {c : Nat → Nat} {u v : Nat} : mixD c u v = c v - (if v = u then 1 else 0) := by
  unfold mixD
  split <;> omega
theorem mixD_sum {c : Nat → Nat} {u : Nat} (hu : u < 6) (cu : 0 < c u) : c 0 + c 1 + c 2 + c 3 + c 4 + c 5 = mixD c u 0 + mixD c u 1 + mixD c u 2 + mixD c u 3 + mixD c u 4 + mixD c u 5 + 1 := by
  rcases six hu with rfl | rfl | rfl | rfl | rfl | rfl <;> simp only [mixD, Nat.reduceEqDiff, if_true, if_false] <;> omega
theorem mix_c1 {c : Nat → Nat} {u s : Nat} (hus : u < s) (hs : s < 6) (cu : 0 < c u) (cs : 0 < c s) (hv : ∀ v, u < v → v < s → c v = 0) (hg : gtS c u - 1 < mixD c u 0 + mixD c u 1 + mixD c u 2 + mixD c u 3 + mixD c u 4 + mixD c u 5) : dscF (mixD c u) (gtS c u - 1) = s := by
  rw [dsc_iff hs hg]
  have a := gtS_D (c := c) (show u < 6 by omega) hs cu
  have b := gtS_gap hus hs hv
  have d := mixD_at (c := c) (u := u) (v := s)
  rw [if_neg (by omega)] at a d
  omega
theorem mix_c2 {c : Nat → Nat} {u k : Nat} (hu : u < 6) (cu : 0 < c u) (hk : gtS c u ≤ k) (hq : k < mixD c u 0 + mixD c u 1 + mixD c u 2 + mixD c u 3 + mixD c u 4 + mixD c u 5) : dscF (mixD c u) k ≤ u := by
  refine Nat.le_of_not_lt fun h => ?_
  have h6 := dscF_lt (mixD c u) k
  have q := (dsc_iff h6 hq).mp rfl
  generalize dscF (mixD c u) k = v at *
  have a := gtS_D (c := c) hu h6 cu
  rw [if_neg (by omega)] at a
  have d := mixD_at (c := c) (u := u) (v := v)
  rw [if_neg (by omega)] at d
  have e : gtS c v + c v ≤ gtS c u := by
    have hu' : u = 0 ∨ u = 1 ∨ u = 2 ∨ u = 3 ∨ u = 4 := by omega
    rcases six h6 with rfl | rfl | rfl | rfl | rfl | rfl <;> rcases hu' with rfl | rfl | rfl | rfl | rfl <;> first
      | omega
      | (simp only [gtS, Nat.reduceLT, if_true, if_false, Nat.lt_irrefl, Nat.not_lt_zero, Nat.zero_add, Nat.add_zero] <;> omega)
  omega
theorem asc_dsc {c : Nat → Nat} {k : Nat} (h : k < c 0 + c 1 + c 2 + c 3 + c 4 + c 5) : ascF c k = dscF c (c 0 + c 1 + c 2 + c 3 + c 4 + c 5 - 1 - k) := by
  unfold ascF dscF
  (repeat' split) <;> omega
theorem mix_c3 {c : Nat → Nat} {u s m : Nat} (hus : u < s) (hs : s < 6) (cu : 0 < c u) (cs : 0 < c s) (hv : ∀ v, u < v → v < s → c v = 0) (hm : c 0 + c 1 + c 2 + c 3 + c 4 + c 5 = m + 1) {k : Nat} (hk : k < m) : ascF (mixD c s) k = if m - k = gtS c u then u else dscF (mixD c u) (m - k - 1) := by
  have s1 := mixD_sum (c := c) (show u < 6 by omega) cu
  have s2 := mixD_sum (c := c) hs cs
  rw [asc_dsc (by omega), show mixD c s 0 + mixD c s 1 + mixD c s 2 + mixD c s 3 + mixD c s 4 + mixD c s 5 - 1 - k = m - k - 1 from by omega]
  have b := gtS_gap hus hs hv
  by_cases e : m - k = gtS c u
  · rw [if_pos e, dsc_iff (by omega) (by omega)]
    have a := gtS_D (c := c) (v := u) hs (by omega) cs
    rw [if_pos hus] at a
    have d := mixD_at (c := c) (u := s) (v := u)
    rw [if_neg (by omega)] at d
    omega
  · rw [if_neg e]
    have h6 := dscF_lt (mixD c u) (m - k - 1)
    have q := (dsc_iff h6 (by omega)).mp (rfl : dscF (mixD c u) (m - k - 1) = _)
    generalize hvv : dscF (mixD c u) (m - k - 1) = v at *
    rw [dsc_iff h6 (by omega)]
    have a1 := gtS_D (c := c) (show u < 6 by omega) h6 cu
    have a2 := gtS_D (c := c) hs h6 cs
    have d1 := mixD_at (c := c) (u := u) (v := v)
    have d2 := mixD_at (c := c) (u := s) (v := v)
    have hz := hv v
    rcases Nat.lt_trichotomy v u with z | z | z
    · rw [if_pos z] at a1; rw [if_pos (by omega)] at a2; rw [if_neg (by omega)] at d1 d2; omega
    · rw [if_neg (by omega)] at a1; rw [if_pos (by omega)] at a2; rw [if_pos z] at d1; rw [if_neg (by omega)] at d2
      subst z
      omega
    · rcases Nat.lt_trichotomy v s with y | y | y
      · have := hz z y
        rw [if_neg (by omega)] at a1 d1
        omega
      · rw [if_neg (by omega)] at a1 a2 d1; rw [if_pos y] at d2
        subst y
        omega
      · rw [if_neg (by omega)] at a1 a2 d1 d2; omega
/-- from the greatest row with one sort ahead to the least with the next sort -/
theorem mix_cross {c : Nat → Nat} {u s m : Nat} {d a : List Nat} (hus : u < s) (hs : s < 6) (cu : 0 < c u) (cs : 0 < c s) (hv : ∀ v, u < v → v < s → c v = 0) (hm : mixS c 6 = m + 1)
    (hd : ∀ k, k < m → gd d k = dscF (mixD c u) k) (ha : ∀ k, k < m → gd a k = ascF (mixD c s) k) : isNx (m + 1) (gd (u :: d)) (gd (s :: a)) := by
  rw [mixS_6] at hm
  have g0 : 0 < gtS c u ∧ gtS c u < m + 1 := by
    have hu : u = 0 ∨ u = 1 ∨ u = 2 ∨ u = 3 ∨ u = 4 := by omega
    have hs' : s = 1 ∨ s = 2 ∨ s = 3 ∨ s = 4 ∨ s = 5 := by omega
    unfold gtS
    rcases hs' with rfl | rfl | rfl | rfl | rfl <;> (repeat' split) <;> rcases hu with rfl | rfl | rfl | rfl | rfl <;> omega
  obtain ⟨g1, g2⟩ := g0
  obtain ⟨g, hg⟩ : ∃ g, gtS c u = g + 1 := ⟨gtS c u - 1, by omega⟩
  have k1 := mix_c1 hus hs cu cs hv (by have := mixD_sum (c := c) (show u < 6 by omega) cu; omega)
  rw [hg] at g1 g2 k1
  have k1 : dscF (mixD c u) g = s := k1
  have k0 : u < gd (u :: d) (0 + 1) := by
    rw [gd_s, hd 0 (by omega)]
    have : ∀ k, dscF (mixD c u) k ≤ dscF (mixD c u) 0 := by
      intro k
      induction k with
      | zero => exact Nat.le_refl _
      | succ k ih => exact Nat.le_trans (dscF_le _ k) ih
    have := this g
    omega
  have k2 : gd (u :: d) (g + 1) = s := by rw [gd_s, hd g (by omega)]; exact k1
  refine ⟨0, g + 1, by omega, g2, k0, ?_, by rw [k2]; exact hus, ?_, ?_⟩
  · intro k hk hk2
    obtain ⟨k, rfl⟩ : ∃ q, k = q + 1 := ⟨k - 1, by omega⟩
    rw [gd_s, gd_s, hd _ (by omega), hd _ (by omega)]
    exact dscF_le _ _
  · intro k hk hk2
    obtain ⟨k, rfl⟩ : ∃ q, k = q + 1 := ⟨k - 1, by omega⟩
    rw [gd_s, hd _ (by omega)]
    exact mix_c2 (by omega) cu (by omega) (by have := mixD_sum (c := c) (show u < 6 by omega) cu; omega)
  · intro k hk
    unfold nxF
    rw [if_neg (Nat.not_lt_zero _)]
    cases k with
    | zero => rw [if_pos rfl, k2]; rfl
    | succ k =>
      rw [if_neg (by omega), gd_s, ha k (by omega), mix_c3 hus hs cu cs hv hm (by omega), hg]
      by_cases e : m - k = g + 1
      · rw [if_pos e, if_pos (by omega)]; rfl
      · rw [if_neg e, if_neg (by omega)]
        rw [show m + 1 + 0 - (k + 1) = (m - k - 1) + 1 from by omega, gd_s, hd _ (by omega)]
theorem ascF_cons {c : Nat → Nat} {v : Nat} (h6 : v < 6) (cv : 0 < c v) (h0 : ∀ u, u < v → c u = 0) : ascF c 0 = v ∧ ∀ k, ascF (mixD c v) k = ascF c (k + 1) := by
  have e0 := h0 0; have e1 := h0 1; have e2 := h0 2; have e3 := h0 3; have e4 := h0 4
  have hv : v = 0 ∨ v = 1 ∨ v = 2 ∨ v = 3 ∨ v = 4 ∨ v = 5 := by omega
  refine ⟨?_, fun k => ?_⟩ <;> rcases hv with rfl | rfl | rfl | rfl | rfl | rfl <;>
    simp only [ascF, mixD, Nat.reduceEqDiff, if_true, if_false] <;> (repeat' split) <;> omega
theorem dscF_cons {c : Nat → Nat} {v : Nat} (h6 : v < 6) (cv : 0 < c v) (h0 : ∀ u, v < u → u < 6 → c u = 0) : dscF c 0 = v ∧ ∀ k, dscF (mixD c v) k = dscF c (k + 1) := by
  have e0 := h0 1; have e1 := h0 2; have e2 := h0 3; have e3 := h0 4; have e4 := h0 5
  have hv : v = 0 ∨ v = 1 ∨ v = 2 ∨ v = 3 ∨ v = 4 ∨ v = 5 := by omega
  refine ⟨?_, fun k => ?_⟩ <;> rcases hv with rfl | rfl | rfl | rfl | rfl | rfl <;>
    simp only [dscF, mixD, Nat.reduceEqDiff, if_true, if_false] <;> (repeat' split) <;> omega
/-- what the rows of so many sorts are: in order, from the least to the greatest -/
def mixOK (m : Nat) (c : Nat → Nat) (l : List (List Nat)) : Prop :=
  chn (fun a b => isNx m (gd a) (gd b)) l ∧ (∃ h, l.head? = some h ∧ ∀ k, k < m → gd h k = ascF c k) ∧ (∃ h, l.getLast? = some h ∧ ∀ k, k < m → gd h k = dscF c k)
theorem head_append {l l' : List (List Nat)} {h : List Nat} (e : l.head? = some h) : (l ++ l').head? = some h := by
  cases l with
  | nil => simp at e
  | cons a t => exact e
theorem last_append {l l' : List (List Nat)} {h : List Nat} (e : l'.getLast? = some h) : (l ++ l').getLast? = some h := by
  rw [List.getLast?_append, e]; rfl
theorem mixP_ok {m : Nat} {c : Nat → Nat} (hm : mixS c 6 = m + 1) (ih : ∀ s, s < 6 → 0 < c s → mixOK m (mixD c s) (mixR m (mixD c s))) : ∀ s, s ≤ 6 →
    ((∀ u, u < s → c u = 0) ∧ mixP (mixR m) c s = []) ∨
    (chn (fun a b => isNx (m + 1) (gd a) (gd b)) (mixP (mixR m) c s) ∧
      (∃ v t, v < s ∧ 0 < c v ∧ (∀ u, u < v → c u = 0) ∧ (mixP (mixR m) c s).head? = some (v :: t) ∧ ∀ k, k < m → gd t k = ascF (mixD c v) k) ∧
      (∃ v t, v < s ∧ 0 < c v ∧ (∀ u, v < u → u < s → c u = 0) ∧ (mixP (mixR m) c s).getLast? = some (v :: t) ∧ ∀ k, k < m → gd t k = dscF (mixD c v) k))
  | 0, _ => Or.inl ⟨fun u hu => absurd hu (Nat.not_lt_zero _), rfl⟩
  | s + 1, hs => by
    have IH := mixP_ok hm ih s (by omega)
    by_cases e : 0 < c s
    · have hB : mixB (mixR m) c s = (mixR m (mixD c s)).map (fun r => s :: r) := by unfold mixB; rw [if_pos e]
      obtain ⟨b1, ⟨h, b2, b3⟩, ⟨l, b4, b5⟩⟩ := ih s (by omega) e
      have B1 : chn (fun a b => isNx (m + 1) (gd a) (gd b)) (mixB (mixR m) c s) := by rw [hB]; exact chn_map (fun a b => isNx_cons) b1
      have B2 : (mixB (mixR m) c s).head? = some (s :: h) := by rw [hB, List.head?_map, b2]; rfl
      have B4 : (mixB (mixR m) c s).getLast? = some (s :: l) := by rw [hB, List.getLast?_map, b4]; rfl
      right
      rcases IH with ⟨i1, i2⟩ | ⟨i1, ⟨v, t, i2, i3, i4, i5, i6⟩, ⟨w, t', i7, i8, i9, i10, i11⟩⟩
      · simp only [mixP, i2, List.nil_append]
        exact ⟨B1, ⟨s, h, by omega, e, i1, B2, b3⟩, ⟨s, l, by omega, e, fun u a b => by omega, B4, b5⟩⟩
      · simp only [mixP]
        refine ⟨chn_append i1 B1 ?_, ⟨v, t, by omega, i3, i4, head_append i5, i6⟩, ⟨s, l, by omega, e, fun u a b => by omega, last_append B4, b5⟩⟩
        intro a b ha hb
        rw [i10] at ha; rw [B2] at hb
        obtain rfl := Option.some.inj ha
        obtain rfl := Option.some.inj hb
        exact mix_cross i7 (by omega) i8 e (fun u a b => i9 u a b) hm i11 b3
    · have hB : mixB (mixR m) c s = [] := by unfold mixB; rw [if_neg e]
      have e0 : c s = 0 := by omega
      rcases IH with ⟨i1, i2⟩ | ⟨i1, ⟨v, t, i2, i3, i4, i5, i6⟩, ⟨w, t', i7, i8, i9, i10, i11⟩⟩
      · left
        refine ⟨fun u hu => ?_, by simp only [mixP, i2, hB, List.nil_append]⟩
        by_cases q : u = s
        · rw [q]; exact e0
        · exact i1 u (by omega)
      · right
        simp only [mixP, hB, List.append_nil]
        refine ⟨i1, ⟨v, t, by omega, i3, i4, i5, i6⟩, ⟨w, t', by omega, i8, fun u a b => ?_, i10, i11⟩⟩
        by_cases q : u = s
        · rw [q]; exact e0
        · exact i9 u a (by omega)
theorem mixR_ok : ∀ m c, mixS c 6 = m → mixOK m c (mixR m c)
  | 0, c, _ => ⟨trivial, ⟨[], rfl, fun k hk => absurd hk (Nat.not_lt_zero _)⟩, ⟨[], rfl, fun k hk => absurd hk (Nat.not_lt_zero _)⟩⟩
  | m + 1, c, h => by
    have := mixP_ok h (fun s h6 hs => mixR_ok m (mixD c s) (by
      have := mixS_D hs 6
      rw [if_pos h6] at this
      omega)) 6 (by omega)
    rcases this with ⟨i1, _⟩ | ⟨i1, ⟨v, t, i2, i3, i4, i5, i6⟩, ⟨w, t', i7, i8, i9, i10, i11⟩⟩
    · exfalso
      rw [mixS_6, i1 0 (by omega), i1 1 (by omega), i1 2 (by omega), i1 3 (by omega), i1 4 (by omega), i1 5 (by omega)] at h
      omega
    · refine ⟨i1, ⟨v :: t, i5, ?_⟩, ⟨w :: t', i10, ?_⟩⟩
      · obtain ⟨q1, q2⟩ := ascF_cons i2 i3 i4
        intro k hk
        cases k with
        | zero => rw [q1]; rfl
        | succ k => rw [gd_s, i6 k (by omega), q2]
      · obtain ⟨q1, q2⟩ := dscF_cons i7 i8 i9
        intro k hk
        cases k with
        | zero => rw [q1]; rfl
        | succ k => rw [gd_s, i11 k (by omega), q2]
