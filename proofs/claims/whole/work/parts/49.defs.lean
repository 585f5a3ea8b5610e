/-! what can be: the worlds of a state, the possible ones, how many have a sort at a place -/
def aNum (A : xAb) (k s : Nat) : Nat := if k = 3 then s else ab_mark A s k
def aRot (A : xAb) (k p : Nat) : Nat := ab_pour A (if p < k then p + ab_n A - k else p - k)
def aTurn (A : xAb) : Nat → List Nat
  | 0 => []
  | k + 1 => insW (wc (aRot A k) (ab_n A)) (aTurn A k)
/-- how many of the first have a sort -/
def fcnt (f : Nat → Nat) (s : Nat) : Nat → Nat
  | 0 => 0
  | i + 1 => fcnt f s i + (if f i = s then 1 else 0)
def aC (A : xAb) (s : Nat) : Nat := fcnt (ab_pour A) s (ab_n A)
def aMix (A : xAb) : List Nat := (mixR (ab_n A) (aC A)).map (fun r => wc (gd r) (ab_n A))
def aW (A : xAb) : List Nat := if ab_law A = 2 then aMix A else aTurn A (if ab_law A = 0 then 1 else ab_n A)
def aHas (A : xAb) (w : Nat) : Bool := (ab_sign A).all (fun s => decide (aNum A (s / 10 % 4) (wd w (s / 40)) = s % 10))
def aP (A : xAb) : List Nat := (aW A).filter (aHas A)
def aSt (A : xAb) (p s : Nat) : Nat := if p < ab_n A then (aP A).countP (fun w => decide (wd w p = s)) else 0
theorem fcnt_le (f : Nat → Nat) (s : Nat) : ∀ n, fcnt f s n ≤ n
  | 0 => Nat.le_refl _
  | n + 1 => by
    have := fcnt_le f s n
    simp only [fcnt]
    split <;> omega
theorem fcnt_sum {f : Nat → Nat} : ∀ n, (∀ i, i < n → f i < 6) → mixS (fun s => fcnt f s n) 6 = n
  | 0, _ => rfl
  | n + 1, h => by
    have ih := fcnt_sum n (fun i hi => h i (by omega))
    have q := h n (by omega)
    rw [mixS_6] at ih ⊢
    simp only [fcnt]
    have : f n = 0 ∨ f n = 1 ∨ f n = 2 ∨ f n = 3 ∨ f n = 4 ∨ f n = 5 := by omega
    rcases this with e | e | e | e | e | e <;> rw [e] <;> simp only [Nat.reduceEqDiff, if_true, if_false] <;> omega
theorem fcnt_gd {r : List Nat} {s : Nat} : fcnt (gd r) s r.length = r.countP (fun x => decide (x = s)) := by
  have key : ∀ (t : List Nat) (i : Nat), i ≤ t.length → fcnt (gd t) s i = (t.take i).countP (fun x => decide (x = s)) := by
    intro t i
    induction i with
    | zero => intro _; simp [fcnt]
    | succ i ih =>
      intro hi
      simp only [fcnt]
      rw [ih (by omega), take_snoc (by omega), List.countP_append]
      congr 1
      simp [List.countP_cons, gd]
  rw [key r r.length (Nat.le_refl _), List.take_length]
theorem fcnt_congr {f g : Nat → Nat} {s : Nat} : ∀ n, (∀ i, i < n → f i = g i) → fcnt f s n = fcnt g s n
  | 0, _ => rfl
  | n + 1, h => by simp only [fcnt]; rw [fcnt_congr n (fun i hi => h i (by omega)), h n (by omega)]
theorem fcnt_rot {A : xAb} {k s : Nat} (h2 : 2 ≤ ab_n A) (h6 : ab_n A ≤ 6) (hk : k < ab_n A) : fcnt (aRot A k) s (ab_n A) = aC A s := by
  unfold aC
  have e : aRot A k = fun p => ab_pour A (if p < k then p + ab_n A - k else p - k) := rfl
  rw [e]
  generalize ab_n A = n at *
  generalize ab_pour A = f at *
  have hn : n = 2 ∨ n = 3 ∨ n = 4 ∨ n = 5 ∨ n = 6 := by omega
  have hq : k = 0 ∨ k = 1 ∨ k = 2 ∨ k = 3 ∨ k = 4 ∨ k = 5 := by omega
  rcases hn with rfl | rfl | rfl | rfl | rfl <;> rcases hq with rfl | rfl | rfl | rfl | rfl | rfl <;>
    first | omega | (simp only [fcnt, Nat.reduceLT, Nat.reduceAdd, Nat.reduceSub, if_true, if_false, Nat.lt_irrefl, Nat.not_lt_zero, Nat.sub_zero, Nat.zero_add, Nat.sub_self] <;> omega)
/-- a world's row -/
def aRow (A : xAb) (w : Nat) : Prop := ∃ f : Nat → Nat, (∀ i, i < ab_n A → f i < 6) ∧ w = wc f (ab_n A) ∧ ∀ s, s < 6 → fcnt f s (ab_n A) = aC A s
theorem aTurn_mem {A : xAb} (hA : abOK A) {w : Nat} : ∀ m, m ≤ ab_n A → w ∈ aTurn A m → aRow A w
  | 0, _, h => by simp [aTurn] at h
  | m + 1, hm, h => by
    rcases insW_mem.mp h with rfl | h
    · refine ⟨aRot A m, ?_, rfl, fun s _ => fcnt_rot hA.1.1 hA.1.2 (by omega)⟩
      intro i hi
      have h6 := hA.1.2
      unfold aRot
      by_cases e : i < m
      · rw [if_pos e]; exact hA.2.2.1 _ (by omega)
      · rw [if_neg e]; exact hA.2.2.1 _ (by omega)
    · exact aTurn_mem hA m (by omega) h
theorem aTurn_srt {A : xAb} : ∀ m, srt (aTurn A m)
  | 0 => List.Pairwise.nil
  | m + 1 => insW_srt (aTurn_srt m)
theorem aTurn_len {A : xAb} : ∀ m, (aTurn A m).length ≤ m
  | 0 => Nat.le_refl _
  | m + 1 => by
    have := aTurn_len (A := A) m
    have q := insW_len (w := wc (aRot A m) (ab_n A)) (l := aTurn A m)
    show (insW _ _).length ≤ _
    omega
theorem aTurn_pos {A : xAb} {m : Nat} (h : 0 < m) : 0 < (aTurn A m).length := by
  cases m with
  | zero => omega
  | succ m =>
    have : wc (aRot A m) (ab_n A) ∈ aTurn A (m + 1) := insW_mem.mpr (Or.inl rfl)
    exact List.length_pos_of_mem this
theorem aC_sum {A : xAb} (hA : abOK A) : mixS (aC A) 6 = ab_n A := fcnt_sum (ab_n A) (fun i hi => hA.2.2.1 i (by have := hA.1.2; omega))
theorem aMix_row {A : xAb} (hA : abOK A) {r : List Nat} (h : r ∈ mixR (ab_n A) (aC A)) : r.length = ab_n A ∧ (∀ i, i < ab_n A → gd r i < 6) ∧ ∀ s, s < 6 → fcnt (gd r) s (ab_n A) = aC A s := by
  obtain ⟨a, b, c⟩ := mixR_mem _ _ r (aC_sum hA) h
  refine ⟨a, fun i hi => b _ (gd_mem (by omega)), fun s hs => ?_⟩
  rw [← a, fcnt_gd]; exact c s hs
theorem aW_row {A : xAb} (hA : abOK A) {w : Nat} (h : w ∈ aW A) : aRow A w := by
  unfold aW at h
  by_cases e : ab_law A = 2
  · rw [if_pos e] at h
    obtain ⟨r, h1, rfl⟩ := List.mem_map.mp h
    obtain ⟨_, b, c⟩ := aMix_row hA h1
    exact ⟨gd r, b, rfl, c⟩
  · rw [if_neg e] at h
    exact aTurn_mem hA _ (by have := hA.1.1; split <;> omega) h
theorem aW_len {A : xAb} (hA : abOK A) : 0 < (aW A).length ∧ (aW A).length ≤ 720 := by
  have h2 := hA.1.1
  have h6 := hA.1.2
  unfold aW
  by_cases e : ab_law A = 2
  · rw [if_pos e]
    unfold aMix
    rw [List.length_map]
    have q := mixR_len (ab_n A) (aC A) (aC_sum hA)
    obtain ⟨_, ⟨h, hh, _⟩, _⟩ := mixR_ok (ab_n A) (aC A) (aC_sum hA)
    constructor
    · cases hm : mixR (ab_n A) (aC A) with
      | nil => rw [hm] at hh; simp at hh
      | cons a t => simp
    · have : mixF (ab_n A) ≤ 720 := by
        have hn : ab_n A = 2 ∨ ab_n A = 3 ∨ ab_n A = 4 ∨ ab_n A = 5 ∨ ab_n A = 6 := by omega
        rcases hn with e | e | e | e | e <;> rw [e] <;> decide
      omega
  · rw [if_neg e]
    refine ⟨aTurn_pos (by split <;> omega), ?_⟩
    have := aTurn_len (A := A) (if ab_law A = 0 then 1 else ab_n A)
    split at this <;> split <;> first | omega | (rename_i a b; first | exact absurd a b | exact absurd b a)
theorem wc_inj {f g : Nat → Nat} {n : Nat} (hn : n ≤ 6) (hf : ∀ i, i < n → f i < 8) (hg : ∀ i, i < n → g i < 8) (h : wc f n = wc g n) {i : Nat} (hi : i < n) : f i = g i := by
  have a := wd_wc hn hf (show i < 6 by omega)
  have b := wd_wc hn hg (show i < 6 by omega)
  rw [if_pos hi] at a b
  rw [← a, ← b, h]
theorem gd_ext {r r' : List Nat} (h : r.length = r'.length) (e : ∀ i, i < r.length → gd r i = gd r' i) : r = r' := by
  refine List.ext_getElem h fun i h1 h2 => ?_
  have := e i h1
  unfold gd at this
  rw [List.getD_eq_getElem?_getD, List.getD_eq_getElem?_getD, List.getElem?_eq_getElem h1, List.getElem?_eq_getElem h2] at this
  exact this
theorem aW_nodup {A : xAb} (hA : abOK A) : (aW A).Nodup := by
  unfold aW
  by_cases e : ab_law A = 2
  · rw [if_pos e]
    unfold aMix
    have h := mixR_nodup (ab_n A) (aC A) (aC_sum hA)
    refine List.pairwise_map.mpr (List.Pairwise.imp_of_mem (fun {a b} ha hb hab q => ?_) h)
    obtain ⟨a1, a2, _⟩ := aMix_row hA ha
    obtain ⟨b1, b2, _⟩ := aMix_row hA hb
    refine hab (gd_ext (by omega) fun i hi => ?_)
    exact wc_inj hA.1.2 (fun i hi => by have := a2 i hi; omega) (fun i hi => by have := b2 i hi; omega) q (by omega)
  · rw [if_neg e]
    exact (aTurn_srt _).imp fun {a b} h => by omega
theorem aW_lt {A : xAb} (hA : abOK A) {w : Nat} (h : w ∈ aW A) : w < 262144 := by
  obtain ⟨f, a, rfl, _⟩ := aW_row hA h
  exact wc_lt hA.1.2 (fun i hi => by have := a i hi; omega)
theorem aW_wd {A : xAb} (hA : abOK A) {w p : Nat} (h : w ∈ aW A) (hp : p < 6) : wd w p < 6 ∧ (ab_n A ≤ p → wd w p = 0) := by
  obtain ⟨f, a, rfl, _⟩ := aW_row hA h
  rw [wd_wc hA.1.2 (fun i hi => by have := a i hi; omega) hp]
  by_cases e : p < ab_n A
  · rw [if_pos e]; exact ⟨a p e, fun q => by omega⟩
  · rw [if_neg e]; exact ⟨by omega, fun _ => rfl⟩
/-- a world is what stands at its places -/
theorem aW_ext {A : xAb} (hA : abOK A) {w v : Nat} (h : w ∈ aW A) (k : v ∈ aW A) (e : ∀ p, p < ab_n A → wd w p = wd v p) : w = v := by
  obtain ⟨f, a, rfl, _⟩ := aW_row hA h
  obtain ⟨g, b, rfl, _⟩ := aW_row hA k
  refine wc_congr _ fun i hi => ?_
  have q := e i hi
  have h6 := hA.1.2
  rw [wd_wc hA.1.2 (fun i hi => by have := a i hi; omega) (by omega), wd_wc hA.1.2 (fun i hi => by have := b i hi; omega) (by omega), if_pos hi, if_pos hi] at q
  exact q
theorem aP_mem {A : xAb} {w : Nat} : w ∈ aP A ↔ w ∈ aW A ∧ aHas A w = true := by unfold aP; exact List.mem_filter
theorem aP_len {A : xAb} (hA : abOK A) : (aP A).length ≤ 720 := Nat.le_trans (List.length_filter_le _ _) (aW_len hA).2
theorem aP_nodup {A : xAb} (hA : abOK A) : (aP A).Nodup := List.Nodup.sublist List.filter_sublist (aW_nodup hA)
