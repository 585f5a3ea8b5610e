/-! the tally: a table of keys, a slot found by trying one behind the other -/
def occ (K : Nat → Option Nat) : Nat → Nat
  | 0 => 0
  | i + 1 => occ K i + (match K i with
    | none => 0
    | some _ => 1)
theorem occ_all {K : Nat → Option Nat} : ∀ n, (∀ i, i < n → K i ≠ none) → occ K n = n
  | 0, _ => rfl
  | n + 1, h => by
    have ih := occ_all n (fun i hi => h i (by omega))
    simp only [occ]
    cases c : K n with
    | none => exact absurd c (h n (by omega))
    | some _ => show occ K n + 1 = n + 1; omega
theorem occ_set {K : Nat → Option Nat} {s k : Nat} (h : K s = none) : ∀ n, occ (fun i => if i = s then some k else K i) n = occ K n + (if s < n then 1 else 0)
  | 0 => rfl
  | n + 1 => by
    have ih := occ_set (k := k) h n
    simp only [occ]
    rw [ih]
    by_cases e : n = s
    · subst e
      rw [if_pos rfl, h, if_neg (Nat.lt_irrefl _), if_pos (Nat.lt_succ_self _)]
    · rw [if_neg e]
      by_cases q : s < n
      · rw [if_pos q, if_pos (show s < n + 1 by omega)]; omega
      · rw [if_neg q, if_neg (show ¬ s < n + 1 by omega)]; omega
def hshI (x : Int32) : Int32 := (Int32.toUInt32 (x * (-1640531535 : Int32)) >>> (Int32.toUInt32 22 &&& Int32.toUInt32 31)).toInt32
def hsh (k : Nat) : Nat := (Int32.toUInt32 (Int32.ofNat k * (-1640531535 : Int32)) >>> (Int32.toUInt32 22 &&& Int32.toUInt32 31)).toNat
theorem hsh_eq (k : Nat) : (Int32.toUInt32 (Int32.ofNat k * (-1640531535 : Int32)) >>> (Int32.toUInt32 22 &&& Int32.toUInt32 31)).toInt32 = Int32.ofNat (hsh k) := by
  unfold hsh
  generalize (Int32.toUInt32 (Int32.ofNat k * (-1640531535 : Int32)) >>> (Int32.toUInt32 22 &&& Int32.toUInt32 31)) = u
  show (⟨u⟩ : Int32) = ⟨UInt32.ofNat u.toNat⟩
  rw [UInt32.ofNat_toNat]
theorem hsh_lt (k : Nat) : hsh k < 1024 := by
  unfold hsh
  have : (Int32.toUInt32 22 &&& Int32.toUInt32 31) = (22 : UInt32) := by decide
  rw [this, UInt32.toNat_shiftRight, Nat.shiftRight_eq_div_pow]
  have := (Int32.toUInt32 (Int32.ofNat k * (-1640531535 : Int32))).toNat_lt
  have e : (22 : UInt32).toNat % 32 = 22 := rfl
  rw [e]
  omega
/-- the table of a round: which key stands in a slot, how often it came -/
def xTab (t : Nat) (K : Nat → Option Nat) (ks : List Nat) (I : xI) : Prop :=
  I 44 3 = Int32.ofNat t ∧ ∀ i, i < 1024 → (match K i with
    | none => ∃ r, r < t ∧ I 47 i = Int32.ofNat r
    | some k => I 47 i = Int32.ofNat t ∧ I 45 i = Int32.ofNat k ∧ I 46 i = Int32.ofNat (ks.count k))
/-- it is well kept -/
def tabOK (K : Nat → Option Nat) (ks : List Nat) : Prop :=
  occ K 1024 ≤ ks.length ∧ (∀ k, k ∈ ks → ∃ d, d < 1024 ∧ K ((hsh k + d) % 1024) = some k ∧ ∀ e, e < d → ∃ k', k' ≠ k ∧ K ((hsh k + e) % 1024) = some k') ∧
  (∀ i j k, i < 1024 → j < 1024 → K i = some k → K j = some k → i = j) ∧ (∀ i k, i < 1024 → K i = some k → k ∈ ks)
theorem tab_new {t : Nat} {I : xI} {L : xL} {z : Bool × Bool × Nat} (h : xTal t I) : xTab (t + 1) (fun _ => none) [] (xw I 44 3 (I 44 3 + 1)) ∧ tabOK (fun _ => none) [] := by
  refine ⟨⟨?_, ?_⟩, ?_, ?_, ?_, ?_⟩
  · rw [xw_eq, h.1]; exact xv_add t 1
  · intro i hi
    obtain ⟨r, a, b⟩ := h.2 i hi
    exact ⟨r, by omega, by rw [xw_ne1 (by decide)]; exact b⟩
  · have : ∀ n, occ (fun _ => none) n = 0 := by
      intro n
      induction n with
      | zero => rfl
      | succ n ih => simp only [occ, ih]
    rw [this]; exact Nat.zero_le _
  · intro k hk; simp at hk
  · intro i j k _ _ h; simp at h
  · intro i k _ h; simp at h
theorem tab_tal {t : Nat} {K : Nat → Option Nat} {ks : List Nat} {I : xI} (h : xTab t K ks I) : xTal t I := by
  refine ⟨h.1, fun i hi => ?_⟩
  have := h.2 i hi
  cases c : K i with
  | none => rw [c] at this; obtain ⟨r, a, b⟩ := this; exact ⟨r, by omega, b⟩
  | some k => rw [c] at this; exact ⟨t, Nat.le_refl _, this.1⟩
def scrT : Nat → Nat → Prop := fun o k => (o = 44 ∧ k = 3) ∨ o = 45 ∨ o = 46 ∨ o = 47
def scrT' : Nat → Nat → Prop := fun o _ => o = 45 ∨ o = 46 ∨ o = 47
theorem slots_all {h : Nat} (hh : h < 1024) {P : Nat → Prop} (q : ∀ d, d < 1024 → P ((h + d) % 1024)) : ∀ i, i < 1024 → P i := by
  intro i hi
  by_cases c : h ≤ i
  · have := q (i - h) (by omega)
    rw [show (h + (i - h)) % 1024 = i from by omega] at this
    exact this
  · have := q (i + 1024 - h) (by omega)
    rw [show (h + (i + 1024 - h)) % 1024 = i from by omega] at this
    exact this
theorem t_add {I : xI} {L : xL} {z : Bool × Bool × Nat} {t k : Nat} {K : Nat → Option Nat} {ks : List Nat} (hT : xTab t K ks I) (hO : tabOK K ks) (hk : k < 2147483648) (hb : ∀ k, k ∈ ks → k < 2147483648) (hl : ks.length < 1024) (ht : t < 2147483648) : xCd 1 54 [.ref 44, .int (Int32.ofNat k)] (xS I L z) (qV scrT' I L z (Int32.ofNat (ks.count k + 1)) (fun J => ∃ K', xTab t K' (ks ++ [k]) J ∧ tabOK K' (ks ++ [k]))) := by
  refine c_X3_add (g_X3_add_0 (Nat.zero_le _) ?_)
  rw [hsh_eq]
  obtain ⟨o1, o2, o3, o4⟩ := hO
  have hh := hsh_lt k
  have key : ∀ d, d ≤ 1024 → (∀ e, e < d → ∃ k', k' ≠ k ∧ K ((hsh k + e) % 1024) = some k') → h_X3_add_10 0 (qV scrT' I L z (Int32.ofNat (ks.count k + 1)) (fun J => ∃ K', xTab t K' (ks ++ [k]) J ∧ tabOK K' (ks ++ [k]))) (0, 0) I L z (Int32.ofNat k) (Int32.ofNat ((hsh k + d) % 1024)) (Int32.ofNat d) := by
    refine xcount _ 1024 ?_ ?_
    · intro d hd G hpre
      refine g_X3_add_10 (Nat.zero_le _) ?_
      have hs : (hsh k + d) % 1024 < 1024 := Nat.mod_lt _ (by decide)
      have hsl := hT.2 _ hs
      rw [if_pos (show Int32.ofNat d < (1024 : Int32) from (xv_lt (b := 1024) (by omega) (by decide)).mpr hd), if_pos ((xv_in (by omega)).mpr hs), xv_clamp (by omega), hT.1]
      cases c : K ((hsh k + d) % 1024) with
      | none =>
        rw [c] at hsl
        obtain ⟨r, r1, r2⟩ := hsl
        have hnk : ¬ k ∈ ks := fun hm => by
          obtain ⟨d0, q1, q2, q3⟩ := o2 k hm
          rcases Nat.lt_trichotomy d0 d with x | x | x
          · obtain ⟨k', y1, y2⟩ := hpre d0 x
            rw [q2] at y2
            exact y1 (Option.some.inj y2).symm
          · subst x; rw [c] at q2; simp at q2
          · obtain ⟨k', y1, y2⟩ := q3 d x
            rw [c] at y2; simp at y2
        have hc0 : ks.count k = 0 := List.count_eq_zero.mpr hnk
        rw [r2, if_neg (fun x => by have := (xv_eq (by omega) ht).mp x; omega)]
        rw [if_pos (show (xw (xw (xw I 47 ((hsh k + d) % 1024) (Int32.ofNat t)) 45 ((hsh k + d) % 1024) (Int32.ofNat k)) 46 ((hsh k + d) % 1024) 0) 45 ((hsh k + d) % 1024) = Int32.ofNat k by rw [xw_ne1 (by decide), xw_eq])]
        have fr : xsm scrT' I (xw (xw (xw (xw I 47 ((hsh k + d) % 1024) (Int32.ofNat t)) 45 ((hsh k + d) % 1024) (Int32.ofNat k)) 46 ((hsh k + d) % 1024) 0) 46 ((hsh k + d) % 1024) (((xw (xw (xw I 47 ((hsh k + d) % 1024) (Int32.ofNat t)) 45 ((hsh k + d) % 1024) (Int32.ofNat k)) 46 ((hsh k + d) % 1024) 0) 46 ((hsh k + d) % 1024)) + 1)) :=
          xsm_xw (Or.inr (Or.inl rfl)) (xsm_xw (Or.inr (Or.inl rfl)) (xsm_xw (Or.inl rfl) (xsm_xw (Or.inr (Or.inr rfl)) (xsm_refl _ _))))
        have e46 : (xw (xw (xw I 47 ((hsh k + d) % 1024) (Int32.ofNat t)) 45 ((hsh k + d) % 1024) (Int32.ofNat k)) 46 ((hsh k + d) % 1024) 0) 46 ((hsh k + d) % 1024) + 1 = Int32.ofNat 1 := by rw [xw_eq]; rfl
        rw [e46] at fr ⊢
        rw [xw_eq]
        refine ⟨by rw [hc0], _, rfl, fr, fun i => if i = (hsh k + d) % 1024 then some k else K i, ⟨?_, ?_⟩, ?_, ?_, ?_, ?_⟩
        · rw [xw_ne1 (by decide), xw_ne1 (by decide), xw_ne1 (by decide), xw_ne1 (by decide)]; exact hT.1
        · intro i hi
          dsimp only
          by_cases e : i = (hsh k + d) % 1024
          · rw [if_pos e]
            simp only
            rw [e]
            refine ⟨?_, ?_, ?_⟩
            · rw [xw_ne1 (by decide), xw_ne1 (by decide), xw_ne1 (by decide), xw_eq]
            · rw [xw_ne1 (by decide), xw_ne1 (by decide), xw_eq]
            · rw [xw_eq, List.count_append, hc0, List.count_singleton_self]
          · rw [if_neg e]
            have q := hT.2 i hi
            cases ci : K i with
            | none =>
              rw [ci] at q
              obtain ⟨r, r1, r2⟩ := q
              refine ⟨r, r1, ?_⟩
              rw [xw_ne1 (by decide), xw_ne1 (by decide), xw_ne1 (by decide), xw_ne2 e]; exact r2
            | some k' =>
              rw [ci] at q
              obtain ⟨q1, q2, q3⟩ := q
              have hk' := o4 i k' hi ci
              have hne : k' ≠ k := fun x => hnk (by rw [← x]; exact hk')
              refine ⟨?_, ?_, ?_⟩
              · rw [xw_ne1 (by decide), xw_ne1 (by decide), xw_ne1 (by decide), xw_ne2 e]; exact q1
              · rw [xw_ne1 (by decide), xw_ne1 (by decide), xw_ne2 e, xw_ne1 (by decide)]; exact q2
              · rw [xw_ne2 e, xw_ne2 e, xw_ne1 (by decide), xw_ne1 (by decide), List.count_append, List.count_singleton, if_neg (by simp; exact fun x => hne x.symm), Nat.add_zero]; exact q3
        · have := occ_set (k := k) c 1024
          rw [if_pos hs] at this
          rw [List.length_append, this]
          simp
          exact o1
        · intro k1 hk1
          rcases List.mem_append.mp hk1 with hm | hm
          · obtain ⟨d0, q1, q2, q3⟩ := o2 k1 hm
            have hne : k1 ≠ k := fun x => hnk (by rw [← x]; exact hm)
            refine ⟨d0, q1, ?_, fun e he => ?_⟩
            · dsimp only
              rw [if_neg (fun x => by rw [x, c] at q2; simp at q2)]; exact q2
            · obtain ⟨k', y1, y2⟩ := q3 e he
              refine ⟨k', y1, ?_⟩
              dsimp only
              rw [if_neg (fun x => by rw [x, c] at y2; simp at y2)]; exact y2
          · rw [List.mem_singleton] at hm
            subst hm
            refine ⟨d, hd, by dsimp only; rw [if_pos rfl], fun e he => ?_⟩
            obtain ⟨k', y1, y2⟩ := hpre e he
            refine ⟨k', y1, ?_⟩
            dsimp only
            rw [if_neg (fun x => by rw [x, c] at y2; simp at y2)]; exact y2
        · intro i j k1 hi hj h1 h2
          dsimp only at h1 h2
          by_cases ei : i = (hsh k + d) % 1024 <;> by_cases ej : j = (hsh k + d) % 1024
          · omega
          · rw [if_pos ei] at h1; rw [if_neg ej] at h2
            rw [← Option.some.inj h1] at h2
            exact absurd (o4 j k hj h2) hnk
          · rw [if_neg ei] at h1; rw [if_pos ej] at h2
            rw [← Option.some.inj h2] at h1
            exact absurd (o4 i k hi h1) hnk
          · rw [if_neg ei] at h1; rw [if_neg ej] at h2
            exact o3 i j k1 hi hj h1 h2
        · intro i k1 hi h1
          dsimp only at h1
          by_cases ei : i = (hsh k + d) % 1024
          · rw [if_pos ei] at h1
            rw [← Option.some.inj h1]; simp
          · rw [if_neg ei] at h1
            exact List.mem_append.mpr (Or.inl (o4 i k1 hi h1))
      | some k' =>
        rw [c] at hsl
        obtain ⟨q1, q2, q3⟩ := hsl
        have hk' := o4 _ k' hs c
        rw [q1, if_pos rfl, q2]
        by_cases e : k' = k
        · subst e
          rw [if_pos rfl, q3, show Int32.ofNat (ks.count k') + 1 = Int32.ofNat (ks.count k' + 1) from xv_add _ 1, xw_eq]
          refine ⟨rfl, _, rfl, xsm_xw (Or.inr (Or.inl rfl)) (xsm_refl _ _), K, ⟨?_, ?_⟩, ?_, ?_, o3, ?_⟩
          · rw [xw_ne1 (by decide)]; exact hT.1
          · intro i hi
            have q := hT.2 i hi
            cases ci : K i with
            | none =>
              rw [ci] at q
              obtain ⟨r, r1, r2⟩ := q
              exact ⟨r, r1, by rw [xw_ne1 (by decide)]; exact r2⟩
            | some k2 =>
              rw [ci] at q
              obtain ⟨p1, p2, p3⟩ := q
              refine ⟨by rw [xw_ne1 (by decide)]; exact p1, by rw [xw_ne1 (by decide)]; exact p2, ?_⟩
              by_cases ei : i = (hsh k' + d) % 1024
              · have : k2 = k' := by
                  rw [ei, c] at ci
                  exact (Option.some.inj ci).symm
                rw [ei, xw_eq, this, List.count_append, List.count_singleton_self]
              · have hne : ¬ k2 = k' := fun x => by
                  subst x
                  exact ei (o3 i _ k2 hi hs ci c)
                rw [xw_ne2 ei, List.count_append, List.count_singleton, if_neg (by simp; exact fun x => hne x.symm), Nat.add_zero]; exact p3
          · rw [List.length_append]; omega
          · intro k1 hk1
            rcases List.mem_append.mp hk1 with hm | hm
            · exact o2 k1 hm
            · rw [List.mem_singleton] at hm
              rw [hm]; exact o2 k' hk'
          · intro i k1 hi h1
            exact List.mem_append.mpr (Or.inl (o4 i k1 hi h1))
        · rw [if_neg (fun x => e ((xv_eq (hb k' hk') hk).mp x))]
          have e1 : (Int32.ofNat ((hsh k + d) % 1024) + 1) &&& 1023 = Int32.ofNat ((hsh k + (d + 1)) % 1024) := by
            rw [show (1 : Int32) = Int32.ofNat 1 from rfl, show (1023 : Int32) = Int32.ofNat 1023 from rfl, xv_add, xv_and, show (1023 : Nat) = 2 ^ 10 - 1 from rfl, Nat.and_two_pow_sub_one_eq_mod]
            congr 1
            omega
          rw [e1, show Int32.ofNat d + 1 = Int32.ofNat (d + 1) from xv_add d 1]
          refine G fun f hf => ?_
          by_cases x : f = d
          · rw [x]; exact ⟨k', e, c⟩
          · exact hpre f (by omega)
    · intro hpre
      exfalso
      have : ∀ i, i < 1024 → K i ≠ none := slots_all hh (P := fun i => K i ≠ none) (fun d hd => by
        obtain ⟨k', _, y⟩ := hpre d hd
        rw [y]; simp)
      have := occ_all 1024 this
      omega
  have q := key 0 (by omega) (fun e he => absurd he (Nat.not_lt_zero _))
  rw [show (hsh k + 0) % 1024 = hsh k from by rw [Nat.add_zero]; exact Nat.mod_eq_of_lt hh] at q
  exact q
