/-! promises: a sign is seen -/
def ab_signTo (A : xAb) (p k v : Nat) : xAb := (A.1, A.2.1, A.2.2.1, A.2.2.2.1, A.2.2.2.2.1, A.2.2.2.2.2.1, ab_sign A ++ [(p * 4 + k) * 10 + v], A.2.2.2.2.2.2.2)
theorem known_no {A : xAb} {p k : Nat} : ab_known A p k = -1 ↔ ∀ s, s ∈ ab_sign A → s / 10 ≠ p * 4 + k := by
  rcases known_cases (A := A) p k with ⟨e, q⟩ | ⟨s, h1, h2, h3⟩
  · exact ⟨fun _ => q, fun _ => e⟩
  · refine ⟨fun x => ?_, fun x => absurd h2 (x s h1)⟩
    rw [h3, show (-1 : Int32) = -(Int32.ofNat 1) from rfl, xv_m1 (by omega) (by decide) (by decide)] at x
    exact x.elim
theorem known_to {A : xAb} {p k v : Nat} (hk : k < 4) (hv : v < 10) (hn : ab_known A p k = -1) {p' k' : Nat} (hk' : k' < 4) : ab_known (ab_signTo A p k v) p' k' = if p' = p ∧ k' = k then Int32.ofNat v else ab_known A p' k' := by
  have hn' := known_no.mp hn
  have e1 : ((p * 4 + k) * 10 + v) / 10 = p * 4 + k := by omega
  have e2 : ((p * 4 + k) * 10 + v) % 10 = v := by omega
  have hs : ab_sign (ab_signTo A p k v) = ab_sign A ++ [(p * 4 + k) * 10 + v] := rfl
  unfold ab_known
  rw [hs, List.find?_append]
  cases e : (ab_sign A).find? (fun s => Nat.beq (s / 10) (p' * 4 + k')) with
  | some s =>
    have h1 := List.mem_of_find?_eq_some e
    have h2 := Nat.eq_of_beq_eq_true (List.find?_some (p := fun t => Nat.beq (t / 10) (p' * 4 + k')) e)
    rw [if_neg (fun q => hn' s h1 (by rw [h2, q.1, q.2]))]
    rfl
  | none =>
    show (match ([(p * 4 + k) * 10 + v] : List Nat).find? (fun s => Nat.beq (s / 10) (p' * 4 + k')) with | some s => Int32.ofNat (s % 10) | none => -1) = _
    by_cases d : p' = p ∧ k' = k
    · rw [if_pos d, d.1, d.2, List.find?_cons_of_pos (by rw [e1]; exact Nat.beq_refl _)]
      show Int32.ofNat _ = _
      rw [e2]
    · rw [if_neg d, List.find?_cons_of_neg (by rw [e1]; intro x; have := Nat.eq_of_beq_eq_true x; exact d (by omega))]
      rfl
theorem aHv_new {A : xAb} {p k v : Nat} (hk : k < 4) (hv : v < 10) (hp : p < 6) : (aP (ab_signTo A p k v)).length = aHv A p k v := by
  have hW : aW (ab_signTo A p k v) = aW A := aW_eq rfl rfl rfl
  have hH : aHas (ab_signTo A p k v) = fun w => decide (aNum A k (wd w p) = v) && aHas A w := by
    funext w
    unfold aHas
    show (ab_sign A ++ [(p * 4 + k) * 10 + v]).all (fun s => decide (aNum A (s / 10 % 4) (wd w (s / 40)) = s % 10)) = _
    rw [List.all_append, Bool.and_comm]
    congr 1
    rw [List.all_cons, List.all_nil, Bool.and_true, show ((p * 4 + k) * 10 + v) / 10 % 4 = k from by omega, show ((p * 4 + k) * 10 + v) / 40 = p from by omega, show ((p * 4 + k) * 10 + v) % 10 = v from by omega]
  unfold aP aHv aP
  rw [hW, hH, ← List.countP_eq_length_filter, List.countP_filter]
theorem aHv_old {A : xAb} {p k v : Nat} (hk : k < 4) {s : Nat} (hs : s ∈ ab_sign A) (e : s / 10 = p * 4 + k) : aHv A p k v = if s % 10 = v then (aP A).length else 0 := by
  have q : ∀ w, w ∈ aP A → aNum A k (wd w p) = s % 10 := by
    intro w hw
    have := List.all_eq_true.mp (aP_mem.mp hw).2 s hs
    have := of_decide_eq_true this
    rw [e, show (p * 4 + k) % 4 = k from by omega, show s / 40 = p from by omega] at this
    exact this
  unfold aHv
  by_cases d : s % 10 = v
  · rw [if_pos d]
    exact List.countP_eq_length.mpr fun w hw => decide_eq_true (by rw [q w hw, d])
  · rw [if_neg d]
    exact List.countP_eq_zero.mpr fun w hw => by rw [q w hw, decide_eq_false d]; decide
theorem abOK_sign {A : xAb} {p k v : Nat} (hA : abOK A) (hp : p < ab_n A) (hk : k < 4) (hv : v < 10) (h3 : k = 3 → v < 6) (hn : ab_known A p k = -1) : (ab_sign A).length < 24 ∧ abOK (ab_signTo A p k v) := by
  have hn' := known_no.mp hn
  have h6 := hA.1.2
  obtain ⟨k1, k2, k3, k4, k5, k6, k7, k8, ⟨k9, k10, k11⟩, k12⟩ := hA
  have nd : ((p * 4 + k) :: (ab_sign A).map (fun s => s / 10)).Nodup := List.nodup_cons.mpr ⟨fun x => by
    obtain ⟨s, a, b⟩ := List.mem_map.mp x
    exact hn' s a b, k11⟩
  have q := fcnt_list (n := 24) nd (fun j hj => by
    rcases List.mem_cons.mp hj with rfl | hj
    · omega
    · obtain ⟨s, a, b⟩ := List.mem_map.mp hj
      have := (k10 s a).1
      omega)
  have q2 := fcnt_le (fun j => if j ∈ (p * 4 + k) :: (ab_sign A).map (fun s => s / 10) then 1 else 0) 1 24
  rw [q, List.length_cons, List.length_map] at q2
  refine ⟨by omega, k1, k2, k3, k4, k5, k6, k7, k8, ⟨?_, ?_, ?_⟩, k12⟩
  · show (ab_sign A ++ [(p * 4 + k) * 10 + v]).length ≤ 24
    rw [List.length_append]; exact q2
  · intro s hs
    rcases List.mem_append.mp (show s ∈ ab_sign A ++ [(p * 4 + k) * 10 + v] from hs) with hs | hs
    · exact k10 s hs
    · rw [List.mem_singleton.mp hs]
      refine ⟨?_, ?_⟩
      · rw [show ((p * 4 + k) * 10 + v) / 40 = p from by omega]; exact hp
      · intro x
        have := h3 (by omega)
        omega
  · show ((ab_sign A ++ [(p * 4 + k) * 10 + v]).map (fun s => s / 10)).Nodup
    rw [List.map_append]
    refine List.nodup_append.mpr ⟨k11, by simp, fun a ha b hb => ?_⟩
    have e1 : b = p * 4 + k := by
      have := List.mem_singleton.mp (show b ∈ [((p * 4 + k) * 10 + v) / 10] from hb)
      omega
    intro e
    obtain ⟨s, c, d⟩ := List.mem_map.mp ha
    exact hn' s c (by omega)
theorem t_knows {A : xAb} {I : xI} {L : xL} {z : Bool × Bool × Nat} {p k : Nat} (hA : abOK A) (hX : xTX I 10 A) (hp : p < 6) (hk : k < 4) : xCd 1 99 [.ref 10, .int (Int32.ofNat p), .int (Int32.ofNat k)] (xS I L z) (qP I L z (if ab_known A p k = -1 then 0 else 1)) := by
  refine c_X6_knows (d := 0) (g_X6_knows_0 (by decide) ?_)
  have h6 := hA.1.2
  have hs := hA.2.2.2.2.2.2.2.2.1
  have hn := hX.1.2.2.2.1
  have key : ∀ i, i ≤ (ab_sign A).length → (∀ j, j < i → (ab_sign A).getD j 0 / 10 ≠ p * 4 + k) → h_X6_knows_2 0 (qP I L z (if ab_known A p k = -1 then 0 else 1)) (0, 0) I L z (Int32.ofNat p) (Int32.ofNat k) (Int32.ofNat i) := by
    refine xcount _ (ab_sign A).length ?_ ?_
    · intro i hi KK q
      refine g_X6_knows_2 (by decide) ?_
      have hv := hX.2.2.2.2.2.2.1 i hi
      have hm := gd_mem hi
      have hb := (hs.2.1 _ hm).1
      have i24 : i < 24 := by omega
      simp (disch := omega) only [xl_0, xl_1, xl_2, xl_3, xl_4, xl_5, xl_6, xl_7, xl_8, xl_9, xl_10, xl_15, xl_18, xl_24, xl_31, xl_32, xl_36, xl_40, xl_48, xl_63, xl_64, xl_144, xl_250, xl_320, xl_720, xl_721, xl_1000, xl_1023, xl_1024, xv_lt, xv_eq, xv_in, xv_clamp, xv_add, xv_mul, xv_dec, xv_div, xv_mod, xv_m1, xv_m1', xv_and, xv_or, xv_shl, xv_shr, xv_bit0, xv_bit1, hn, hi, i24, hv, if_true]
      by_cases e : (ab_sign A).getD i 0 / 10 = p * 4 + k
      · rw [if_pos e, if_neg (show ¬ ab_known A p k = -Int32.ofNat 1 from fun x => known_no.mp x _ hm e)]
        exact ⟨rfl, rfl⟩
      · rw [if_neg e]
        refine KK fun j hj => ?_
        by_cases d : j = i
        · rw [d]; exact e
        · exact q j (by omega)
    · intro q
      refine g_X6_knows_2 (by decide) ?_
      rw [hn, if_neg (fun q => absurd ((xv_lt (by omega) (by omega)).mp q) (Nat.lt_irrefl _)), if_pos (known_no.mpr fun s hs e => by
        obtain ⟨j, h1, h2⟩ := mem_gd hs
        exact q j h1 (by rw [h2]; exact e))]
      exact ⟨rfl, rfl⟩
  exact key 0 (Nat.zero_le _) (fun j hj => absurd hj (Nat.not_lt_zero _))
theorem t_isSeen {A : xAb} {I : xI} {L : xL} {z : Bool × Bool × Nat} {p k v : Nat} (hA : abOK A) (hM : xTM I 66 A) (hp : p < ab_n A) (hk : k < 4) (hv : v < 10) : xCd 12 217 [.ref 66, .int (Int32.ofNat p), .int (Int32.ofNat k), .int (Int32.ofNat v)] (xS I L z) (qV scrF I L z (if aHv A p k v = 0 then 0 else 1) (fun J => xTM J 66 A)) := by
  refine c_X9_isSeen (d := 11) (g_X9_isSeen_0 (by decide) ?_)
  have h6 := hA.1.2
  have hl := aP_len hA
  refine u_findP hA hM (by decide) ?_
  intro K hK hR hM'
  refine g_X9_isSeen_4 (by decide) ?_
  have key : ∀ i, i ≤ (aP A).length → ((aP A).take i).countP (fun w => decide (aNum A k (wd w p) = v)) = 0 → h_X9_isSeen_7 11 (qV scrF I L z (if aHv A p k v = 0 then 0 else 1) (fun J => xTM J 66 A)) (0, 0) K L z (Int32.ofNat p) (Int32.ofNat k) (Int32.ofNat v) (Int32.ofNat i) := by
    refine xcount _ (aP A).length ?_ ?_
    · intro i hi KK q
      refine g_X9_isSeen_7 (by decide) ?_
      obtain ⟨x, x1, x2, x3, x4⟩ := xRef_at hA hR hi hp
      have hm := aP_mem.mp (gd_mem hi)
      have hs := (aW_wd hA hm.1 (show p < 6 by omega)).1
      have hq := cp_snoc (f := fun w => decide (aNum A k (wd w p) = v)) hi
      have i7 : i < 720 := by omega
      have hb := aNum_lt hA hs hk
      have hkd : xisi (xS K L z) (85 + 1 + wd ((aP A).getD i 0) p) = true ∧ xlen z.2.2 (85 + 1 + wd ((aP A).getD i 0) p) = 4 := by
        generalize wd ((aP A).getD i 0) p = s at hs
        have hk : s = 0 ∨ s = 1 ∨ s = 2 ∨ s = 3 ∨ s = 4 ∨ s = 5 := by omega
        obtain rfl | rfl | rfl | rfl | rfl | rfl := hk <;> exact ⟨rfl, rfl⟩
      rw [hR.2.1, if_pos ((xv_lt (by omega) (by omega)).mpr hi), if_pos ((xv_in (by omega)).mpr i7), xv_clamp (show i < 2147483648 by omega), x2]
      have ix : Int32.ofNat x * 6 + Int32.ofNat p = Int32.ofNat (x * 6 + p) := by
        rw [show Int32.ofNat x * 6 = Int32.ofNat (x * 6) from xv_mul x 6, xv_add]
      rw [ix, if_pos ((xv_in (by omega)).mpr x3), xv_clamp (show x * 6 + p < 2147483648 by omega), x4, if_pos ((xv_in (by omega)).mpr hs), xv_clamp (show wd ((aP A).getD i 0) p < 2147483648 by omega)]
      refine xbifT hkd.1 ?_
      rw [hkd.2, if_pos ((xv_in (by omega)).mpr hk), xv_clamp (show k < 2147483648 by omega), xTM_num hM' hs hk, show Int32.ofNat i + 1 = Int32.ofNat (i + 1) from xv_add i 1]
      by_cases e : aNum A k (wd ((aP A).getD i 0) p) = v
      · rw [if_pos (by rw [e]), if_neg (fun x => by
          have := List.countP_eq_zero.mp x _ (gd_mem hi)
          exact this (decide_eq_true e))]
        exact ⟨rfl, K, rfl, hK, hM'⟩
      · rw [if_neg (fun x => e ((xv_eq (by omega) (by omega)).mp x))]
        refine KK ?_
        rw [hq, q, decide_eq_false e, if_neg (by decide)]
    · intro q
      refine g_X9_isSeen_7 (by decide) ?_
      rw [List.take_length] at q
      rw [hR.2.1, if_neg (fun q => absurd ((xv_lt (by omega) (by omega)).mp q) (Nat.lt_irrefl _)), if_pos (show aHv A p k v = 0 from q)]
      exact ⟨rfl, K, rfl, hK, hM'⟩
  exact key 0 (Nat.zero_le _) rfl
