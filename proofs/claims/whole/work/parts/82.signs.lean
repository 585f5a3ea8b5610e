/-! what is known, counted; and forgotten -/
theorem xis_known {I : xI} {L : xL} {z : Bool × Bool × Nat} {p : Nat} (hp : p < 6) : xisi (xS I L z) (94 + 1 + p) = true ∧ (xis (xS I L z) (94 + 1 + p) 20 && Nat.blt 8 (94 + 1 + p)) = true ∧ xlen z.2.2 (94 + 1 + p) = 4 := by
  have hk : p = 0 ∨ p = 1 ∨ p = 2 ∨ p = 3 ∨ p = 4 ∨ p = 5 := by omega
  obtain rfl | rfl | rfl | rfl | rfl | rfl := hk <;> exact ⟨rfl, rfl, rfl⟩
theorem fcnt_zero {f : Nat → Nat} : ∀ n, (∀ i, i < n → f i ≠ 1) → fcnt f 1 n = 0
  | 0, _ => rfl
  | n + 1, h => by
    simp only [fcnt]
    rw [fcnt_zero n (fun i hi => h i (by omega)), if_neg (h n (by omega))]
theorem fcnt_put {f : Nat → Nat} {a : Nat} (h0 : f a = 0) : ∀ n, fcnt (fun j => if j = a then 1 else f j) 1 n = fcnt f 1 n + (if a < n then 1 else 0)
  | 0 => rfl
  | n + 1 => by
    simp only [fcnt]
    rw [fcnt_put h0 n]
    by_cases e : n = a
    · subst e
      simp only [if_true, Nat.lt_irrefl, if_false, h0]
      rw [if_pos (show n < n + 1 by omega)]
      simp
    · have e1 : (if n = a then 1 else f n) = f n := if_neg e
      simp only [e1]
      by_cases d : a < n
      · rw [if_pos d, if_pos (show a < n + 1 by omega)]; omega
      · rw [if_neg d, if_neg (show ¬ a < n + 1 by omega)]; omega
/-- in a list without doubles -/
theorem fcnt_list {n : Nat} : ∀ {l : List Nat}, l.Nodup → (∀ j, j ∈ l → j < n) → fcnt (fun j => if j ∈ l then 1 else 0) 1 n = l.length
  | [], _, _ => fcnt_zero n (fun i _ => by simp)
  | a :: t, h, k => by
    have h' := List.pairwise_cons.mp h
    have e : (fun j => if j ∈ a :: t then 1 else 0) = (fun j => if j = a then 1 else (fun j => if j ∈ t then 1 else 0) j) := by
      funext j
      by_cases d : j = a
      · rw [if_pos d, d]; simp
      · rw [if_neg d]
        simp [d]
    have na : ¬ a ∈ t := fun x => h'.1 a x rfl
    rw [e, fcnt_put (by simp [na]), fcnt_list h'.2 (fun j hj => k j (by simp [hj])), if_pos (k a (by simp))]
    rfl
def aKs (A : xAb) (j : Nat) : Nat := if ab_known A (j / 4) (j % 4) = -1 then 0 else 1
theorem aKs_len {A : xAb} (hA : abOK A) : fcnt (aKs A) 1 24 = (ab_sign A).length := by
  have hs := hA.2.2.2.2.2.2.2.2.1
  have h6 := hA.1.2
  have e : aKs A = fun j => if j ∈ (ab_sign A).map (fun s => s / 10) then 1 else 0 := by
    funext j
    unfold aKs
    rcases known_cases (A := A) (j / 4) (j % 4) with ⟨e, k⟩ | ⟨s, h1, h2, h3⟩
    · rw [if_pos e, if_neg]
      intro x
      obtain ⟨s, a, b⟩ := List.mem_map.mp x
      exact k s a (by omega)
    · rw [if_neg, if_pos (List.mem_map.mpr ⟨s, h1, by omega⟩)]
      rw [h3]
      exact fun q => by rw [show (-1 : Int32) = -(Int32.ofNat 1) from rfl, xv_m1 (by omega) (by decide) (by decide)] at q; exact q
  rw [e, fcnt_list hs.2.2 (fun j hj => by
    obtain ⟨s, a, b⟩ := List.mem_map.mp hj
    have := (hs.2.1 s a).1
    omega), List.length_map]
theorem t_signsMany {A : xAb} {I : xI} {L : xL} {z : Bool × Bool × Nat} (hA : abOK A) (hM : xTM I 66 A) : xCd 1 204 [.ref 66] (xS I L z) (fun r τ => r = some (.int (Int32.ofNat (ab_sign A).length)) ∧ τ = xS I L z) := by
  refine c_X9_signsMany (g_X9_signsMany_0 (by decide) ?_)
  rw [← aKs_len hA]
  have key : ∀ p, p ≤ 6 → h_X9_signsMany_4 0 (fun r τ => r = some (.int (Int32.ofNat (fcnt (aKs A) 1 24))) ∧ τ = xS I L z) (0, 0) I L z (Int32.ofNat (fcnt (aKs A) 1 (p * 4))) (Int32.ofNat p) := by
    refine xcount _ 6 ?_ ?_
    · intro p hp KK
      refine g_X9_signsMany_4 (by decide) ?_
      rw [if_pos (show Int32.ofNat p < (6 : Int32) from (xv_lt (b := 6) (by omega) (by decide)).mpr hp)]
      have key2 : ∀ k, k ≤ 4 → h_X9_signsMany_12 0 (fun r τ => r = some (.int (Int32.ofNat (fcnt (aKs A) 1 24))) ∧ τ = xS I L z) (0, 0) I L z (Int32.ofNat (fcnt (aKs A) 1 (p * 4 + k))) (Int32.ofNat p) (Int32.ofNat k) := by
        refine xcount _ 4 ?_ ?_
        · intro k hk KK2
          refine g_X9_signsMany_12 (by decide) ?_
          have q := xis_known (I := I) (L := L) (z := z) hp
          rw [if_pos (show Int32.ofNat k < (4 : Int32) from (xv_lt (b := 4) (by omega) (by decide)).mpr hk), if_pos ((xv_in (by omega)).mpr hp), xv_clamp (show p < 2147483648 by omega)]
          refine xbifT q.1 ?_
          rw [q.2.2, if_pos ((xv_in (by omega)).mpr hk), xv_clamp (show k < 2147483648 by omega), xTM_known hM hp hk]
          have st : fcnt (aKs A) 1 (p * 4 + (k + 1)) = fcnt (aKs A) 1 (p * 4 + k) + (if ab_known A p k = -1 then 0 else 1) := by
            show fcnt (aKs A) 1 (p * 4 + k) + (if aKs A (p * 4 + k) = 1 then 1 else 0) = _
            unfold aKs
            rw [show (p * 4 + k) / 4 = p from by omega, show (p * 4 + k) % 4 = k from by omega]
            by_cases e : ab_known A p k = -1
            · rw [if_pos e]; rfl
            · rw [if_neg e]; rfl
          by_cases e : ab_known A p k = -1
          · rw [if_pos e, show Int32.ofNat (fcnt (aKs A) 1 (p * 4 + k)) + 0 = Int32.ofNat (fcnt (aKs A) 1 (p * 4 + k)) from xv_add _ 0, show Int32.ofNat k + 1 = Int32.ofNat (k + 1) from xv_add k 1]
            rw [if_pos e, Nat.add_zero] at st
            rw [st] at KK2
            exact KK2
          · rw [if_neg e, show Int32.ofNat (fcnt (aKs A) 1 (p * 4 + k)) + 1 = Int32.ofNat (fcnt (aKs A) 1 (p * 4 + k) + 1) from xv_add _ 1, show Int32.ofNat k + 1 = Int32.ofNat (k + 1) from xv_add k 1]
            rw [if_neg e] at st
            rw [st] at KK2
            exact KK2
        · refine g_X9_signsMany_12 (by decide) ?_
          rw [if_neg (by decide), show Int32.ofNat p + 1 = Int32.ofNat (p + 1) from xv_add p 1]
          rw [show (p + 1) * 4 = p * 4 + 4 from by omega] at KK
          exact KK
      exact key2 0 (by decide)
    · refine g_X9_signsMany_4 (by decide) ?_
      rw [if_neg (by decide)]
      exact ⟨rfl, rfl⟩
  exact key 0 (by decide)
def scrKn : Nat → Nat → Prop := fun o _ => 95 ≤ o ∧ o ≤ 100
theorem t_forgets {I : xI} {L : xL} {z : Bool × Bool × Nat} : xCd 1 203 [.ref 66] (xS I L z) (fun r τ => r = none ∧ ∃ J, τ = xS J L z ∧ xsm scrKn I J ∧ ∀ p, p < 6 → ∀ k, k < 4 → J (95 + p) k = -1) := by
  refine c_X9_forgets (g_X9_forgets_0 (by decide) ?_)
  have key : ∀ p, p ≤ 6 → ∀ J, xsm scrKn I J → (∀ q, q < p → ∀ k, k < 4 → J (95 + q) k = -1) → h_X9_forgets_2 0 (fun r τ => r = none ∧ ∃ J, τ = xS J L z ∧ xsm scrKn I J ∧ ∀ p, p < 6 → ∀ k, k < 4 → J (95 + p) k = -1) (0, 0) J L z (Int32.ofNat p) := by
    refine xcount (fun p => ∀ J, xsm scrKn I J → (∀ q, q < p → ∀ k, k < 4 → J (95 + q) k = -1) → h_X9_forgets_2 0 (fun r τ => r = none ∧ ∃ J, τ = xS J L z ∧ xsm scrKn I J ∧ ∀ p, p < 6 → ∀ k, k < 4 → J (95 + p) k = -1) (0, 0) J L z (Int32.ofNat p)) 6 ?_ ?_
    · intro p hp KK J hJ hq
      refine g_X9_forgets_2 (by decide) ?_
      rw [if_pos (show Int32.ofNat p < (6 : Int32) from (xv_lt (b := 6) (by omega) (by decide)).mpr hp)]
      have key2 : ∀ k, k ≤ 4 → ∀ J, xsm scrKn I J → (∀ q, q < p → ∀ k, k < 4 → J (95 + q) k = -1) → (∀ j, j < k → J (95 + p) j = -1) → h_X9_forgets_10 0 (fun r τ => r = none ∧ ∃ J, τ = xS J L z ∧ xsm scrKn I J ∧ ∀ p, p < 6 → ∀ k, k < 4 → J (95 + p) k = -1) (0, 0) J L z (Int32.ofNat p) (Int32.ofNat k) := by
        refine xcount (fun k => ∀ J, xsm scrKn I J → (∀ q, q < p → ∀ k, k < 4 → J (95 + q) k = -1) → (∀ j, j < k → J (95 + p) j = -1) → h_X9_forgets_10 0 (fun r τ => r = none ∧ ∃ J, τ = xS J L z ∧ xsm scrKn I J ∧ ∀ p, p < 6 → ∀ k, k < 4 → J (95 + p) k = -1) (0, 0) J L z (Int32.ofNat p) (Int32.ofNat k)) 4 ?_ ?_
        · intro k hk KK2 J hJ hq hj
          refine g_X9_forgets_10 (by decide) ?_
          have q := xis_known (I := J) (L := L) (z := z) hp
          rw [if_pos (show Int32.ofNat k < (4 : Int32) from (xv_lt (b := 4) (by omega) (by decide)).mpr hk), if_pos ((xv_in (by omega)).mpr hp), xv_clamp (show p < 2147483648 by omega)]
          refine xbifT q.2.1 ?_
          rw [q.2.2, if_pos ((xv_in (by omega)).mpr hk), xv_clamp (show k < 2147483648 by omega), show Int32.ofNat k + 1 = Int32.ofNat (k + 1) from xv_add k 1]
          refine KK2 _ (xsm_xw (by unfold scrKn; omega) hJ) ?_ ?_
          · intro r hr j hj2
            rw [xw_ne1 (by omega)]; exact hq r hr j hj2
          · intro j hj2
            by_cases e : j = k
            · rw [e]; exact xw_eq _ _ _ _
            · rw [xw_ne2 e]; exact hj j (by omega)
        · intro J hJ hq hj
          refine g_X9_forgets_10 (by decide) ?_
          rw [if_neg (by decide), show Int32.ofNat p + 1 = Int32.ofNat (p + 1) from xv_add p 1]
          refine KK J hJ ?_
          intro r hr k hk
          by_cases e : r = p
          · rw [e]; exact hj k hk
          · exact hq r (by omega) k hk
      exact key2 0 (by decide) J hJ hq (fun j hj => absurd hj (Nat.not_lt_zero _))
    · intro J hJ hq
      refine g_X9_forgets_2 (by decide) ?_
      rw [if_neg (by decide)]
      exact ⟨rfl, J, rfl, hJ, hq⟩
  exact key 0 (by decide) I (xsm_refl _ _) (fun q hq => absurd hq (Nat.not_lt_zero _))
