theorem known_some {A : xAb} (hA : abOK A) {s : Nat} (h : s ∈ ab_sign A) : ab_known A (s / 40) (s / 10 % 4) = Int32.ofNat (s % 10) := by
  have hn := hA.2.2.2.2.2.2.2.2.1.2.2
  unfold ab_known
  cases e : (ab_sign A).find? (fun t => Nat.beq (t / 10) (s / 40 * 4 + s / 10 % 4)) with
  | none =>
    have := List.find?_eq_none.mp e s h
    exact absurd (by rw [show s / 40 * 4 + s / 10 % 4 = s / 10 from by omega]; exact Nat.beq_refl _) this
  | some t =>
    have h1 := List.mem_of_find?_eq_some e
    have h2 : t / 10 = s / 40 * 4 + s / 10 % 4 := Nat.eq_of_beq_eq_true (List.find?_some (p := fun t => Nat.beq (t / 10) (s / 40 * 4 + s / 10 % 4)) e)
    rw [show s / 40 * 4 + s / 10 % 4 = s / 10 from by omega] at h2
    have : t = s := by
      obtain ⟨i, hi, ei⟩ := List.mem_iff_getElem.mp h1
      obtain ⟨j, hj, ej⟩ := List.mem_iff_getElem.mp h
      have q := (List.pairwise_iff_getElem.mp hn)
      rcases Nat.lt_trichotomy i j with c | c | c
      · have := q i j (by simpa using hi) (by simpa using hj) c
        simp only [List.getElem_map, ei, ej] at this
        exact absurd h2 this
      · subst c; rw [← ei, ← ej]
      · have := q j i (by simpa using hj) (by simpa using hi) c
        simp only [List.getElem_map, ei, ej] at this
        exact absurd h2.symm this
    rw [this]
theorem known_cases {A : xAb} (p k : Nat) : (ab_known A p k = -1 ∧ ∀ s, s ∈ ab_sign A → s / 10 ≠ p * 4 + k) ∨ (∃ s, s ∈ ab_sign A ∧ s / 10 = p * 4 + k ∧ ab_known A p k = Int32.ofNat (s % 10)) := by
  unfold ab_known
  cases e : (ab_sign A).find? (fun t => Nat.beq (t / 10) (p * 4 + k)) with
  | none =>
    refine Or.inl ⟨rfl, fun s hs q => ?_⟩
    have := List.find?_eq_none.mp e s hs
    exact this (by rw [q]; exact Nat.beq_refl _)
  | some t => exact Or.inr ⟨t, List.mem_of_find?_eq_some e, Nat.eq_of_beq_eq_true (List.find?_some (p := fun t => Nat.beq (t / 10) (p * 4 + k)) e), rfl⟩
theorem aNum_lt {A : xAb} (hA : abOK A) {k s : Nat} (hs : s < 6) (hk : k < 4) : aNum A k s < 10 := by
  unfold aNum
  by_cases e : k = 3
  · rw [if_pos e]; omega
  · rw [if_neg e]; exact hA.2.2.2.2.2.1 s hs k (by omega)
theorem aHas_iff {A : xAb} (hA : abOK A) {w : Nat} (hw : w ∈ aW A) : aHas A w = true ↔ ∀ p, p < ab_n A → ∀ k, k < 4 → ab_known A p k = -1 ∨ ab_known A p k = Int32.ofNat (aNum A k (wd w p)) := by
  have h6 := hA.1.2
  unfold aHas
  rw [List.all_eq_true]
  constructor
  · intro h p hp k hk
    rcases known_cases (A := A) p k with ⟨e, _⟩ | ⟨s, h1, h2, h3⟩
    · exact Or.inl e
    · right
      have q := of_decide_eq_true (h s h1)
      rw [h3, ← q, show s / 10 % 4 = k from by omega, show s / 40 = p from by omega]
  · intro h s hs
    have hp := (hA.2.2.2.2.2.2.2.2.1.2.1 s hs).1
    have q := known_some hA hs
    have c := aNum_lt hA (k := s / 10 % 4) (aW_wd hA hw (show s / 40 < 6 by omega)).1 (by omega)
    rcases h (s / 40) hp (s / 10 % 4) (by omega) with e | e
    · rw [q] at e
      have := xv_m1 (a := s % 10) (b := 1) (by omega) (by decide) (by decide)
      rw [show (-1 : Int32) = -(Int32.ofNat 1) from rfl, this] at e
      exact e.elim
    · rw [q] at e
      exact decide_eq_true ((xv_eq (by omega) (by omega)).mp e).symm
theorem xTM_num {A : xAb} {I : xI} (hM : xTM I 66 A) {s k : Nat} (hs : s < 6) (hk : k < 4) : I (85 + 1 + s) k = Int32.ofNat (aNum A k s) := by
  obtain ⟨q1, q2⟩ := hM.2.2.2.1 s hs
  unfold aNum
  by_cases e : k = 3
  · rw [if_pos e, e]; exact q2
  · rw [if_neg e]; exact q1 k (by omega)
theorem xTM_known {A : xAb} {I : xI} (hM : xTM I 66 A) {p k : Nat} (hp : p < 6) (hk : k < 4) : I (94 + 1 + p) k = ab_known A p k := hM.2.2.2.2.2.2.1 p hp k hk
theorem known_lt {A : xAb} (hA : abOK A) (p k : Nat) : ab_known A p k = -1 ∨ ∃ v, v < 10 ∧ ab_known A p k = Int32.ofNat v := by
  rcases known_cases (A := A) p k with ⟨e, _⟩ | ⟨s, _, _, e⟩
  · exact Or.inl e
  · exact Or.inr ⟨s % 10, by omega, e⟩
theorem t_hasSigns {A : xAb} {I : xI} {L : xL} {z : Bool × Bool × Nat} {i : Nat} (hA : abOK A) (hM : xTM I 66 A) (hW : xRows (ab_n A) (aW A) I) (hi : i < (aW A).length) : xCd 3 243 [.ref 66, .int (Int32.ofNat i)] (xS I L z) (qP I L z (if aHas A ((aW A).getD i 0) = true then 1 else 0)) := by
  refine c_X9_hasSigns (g_X9_hasSigns_0 (by decide) ?_)
  have h6 := hA.1.2
  have nn := hM.1.1
  have hw := gd_mem hi
  have h7 := (aW_len hA).2
  have hiff := aHas_iff hA hw
  have key : ∀ p, p ≤ ab_n A → (∀ q, q < p → ∀ k, k < 4 → ab_known A q k = -1 ∨ ab_known A q k = Int32.ofNat (aNum A k (wd ((aW A).getD i 0) q))) → h_X9_hasSigns_2 2 (qP I L z (if aHas A ((aW A).getD i 0) = true then 1 else 0)) (0, 0) I L z (Int32.ofNat i) (Int32.ofNat p) := by
    refine xcount _ (ab_n A) ?_ ?_
    · intro p hp K hq
      refine g_X9_hasSigns_2 (by decide) ?_
      rw [nn, if_pos ((xv_lt (by omega) (by omega)).mpr hp)]
      have p6 : p < 6 := by omega
      have key2 : ∀ k, k ≤ 4 → (∀ j, j < k → ab_known A p j = -1 ∨ ab_known A p j = Int32.ofNat (aNum A j (wd ((aW A).getD i 0) p))) → h_X9_hasSigns_12 2 (qP I L z (if aHas A ((aW A).getD i 0) = true then 1 else 0)) (0, 0) I L z (Int32.ofNat i) (Int32.ofNat p) (Int32.ofNat k) := by
        refine xcount _ 4 ?_ ?_
        · intro k hk K2 hj
          refine g_X9_hasSigns_12 (by decide) ?_
          obtain ⟨a1, a2, a3⟩ := g_known (I := I) (L := L) (z := z) p6
          have q1 : i * 6 + p < 4320 := by omega
          have q2 := hW.2 i hi p hp
          have s6 := (aW_wd hA hw p6).1
          obtain ⟨b1, b2, b3⟩ := g_mark (I := I) (L := L) (z := z) s6
          have q3 := xTM_num hM s6 hk
          have q4 := xTM_known hM p6 hk
          have q5 := aNum_lt hA s6 hk
          simp (disch := omega) only [xl_0, xl_1, xl_2, xl_3, xl_4, xl_5, xl_6, xl_7, xl_8, xl_9, xl_10, xl_15, xl_18, xl_24, xl_31, xl_32, xl_36, xl_40, xl_48, xl_63, xl_64, xl_144, xl_250, xl_320, xl_720, xl_721, xl_1000, xl_1023, xl_1024, xv_lt, xv_eq, xv_in, xv_clamp, xv_add, xv_mul, xv_dec, xv_div, xv_mod, xv_m1, xv_m1', xv_and, xv_or, xv_shl, xv_shr, xv_bit0, xv_bit1, hk, p6, a1, a3, q1, q2, s6, b1, b3, q3, q4, cond_true, if_true]
          by_cases e : ab_known A p k = -(Int32.ofNat 1)
          · rw [if_pos e]
            refine K2 fun j hj' => ?_
            by_cases c : j = k
            · rw [c]; exact Or.inl e
            · exact hj j (by omega)
          · rw [if_neg e]
            by_cases d : ab_known A p k = Int32.ofNat (aNum A k (wd ((aW A).getD i 0) p))
            · rw [if_pos d]
              refine K2 fun j hj' => ?_
              by_cases c : j = k
              · rw [c]; exact Or.inr d
              · exact hj j (by omega)
            · rw [if_neg d, if_neg (fun x => by
                rcases hiff.mp x p hp k hk with y | y
                · exact e y
                · exact d y)]
              exact ⟨rfl, rfl⟩
        · intro hj
          refine g_X9_hasSigns_12 (by decide) ?_
          rw [if_neg (by decide), show Int32.ofNat p + 1 = Int32.ofNat (p + 1) from xv_add p 1]
          refine K fun q hq' => ?_
          by_cases c : q = p
          · rw [c]; exact hj
          · exact hq q (by omega)
      exact key2 0 (Nat.zero_le _) (fun j hj => absurd hj (Nat.not_lt_zero _))
    · intro hq
      refine g_X9_hasSigns_2 (by decide) ?_
      rw [nn, if_neg (fun q => Nat.lt_irrefl _ ((xv_lt (by omega) (by omega)).mp q)), if_pos (hiff.mpr hq)]
      exact ⟨rfl, rfl⟩
  exact key 0 (Nat.zero_le _) (fun q hq => absurd hq (Nat.not_lt_zero _))
/-- the possible worlds stand in the reference -/
def xRP (A : xAb) (I : xI) : Prop := I 66 36 = Int32.ofNat (aP A).length ∧ ∃ ix : Nat → Nat, ∀ j, j < (aP A).length → ix j < (aW A).length ∧ (aW A).getD (ix j) 0 = (aP A).getD j 0 ∧ I 108 j = Int32.ofNat (ix j)
def xRef (A : xAb) (I : xI) : Prop := xRows (ab_n A) (aW A) I ∧ xRP A I
theorem t_findPossibleM {A : xAb} {I : xI} {L : xL} {z : Bool × Bool × Nat} (hA : abOK A) (hM : xTM I 66 A) : xCd 10 244 [.ref 66] (xS I L z) (qN scrF I L z (xRef A)) := by
  refine c_X9_findPossible (g_X9_findPossible_0 (Nat.zero_le _) ?_)
  have h7 := (aW_len hA).2
  refine xuse (t_findWorlds hA hM) (by decide) ?_
  rintro _ _ ⟨rfl, J0, rfl, k0, k1⟩
  refine g_X9_findPossible_4 (Nat.zero_le _) ?_
  have hJ0 : xsm scrF I (xw J0 66 36 0) := xsm_xw (Or.inl ⟨rfl, Or.inr rfl⟩) (xsm_mono k0 (fun o k e => by unfold scrK at e; unfold scrF; omega))
  have key : ∀ i, i ≤ (aW A).length → ∀ J : xI, xsm scrF I J → xRows (ab_n A) (aW A) J → J 66 36 = Int32.ofNat (((aW A).take i).filter (aHas A)).length → (∃ ix : Nat → Nat, ∀ j, j < (((aW A).take i).filter (aHas A)).length → ix j < (aW A).length ∧ (aW A).getD (ix j) 0 = (((aW A).take i).filter (aHas A)).getD j 0 ∧ J 108 j = Int32.ofNat (ix j)) → h_X9_findPossible_11 9 (qN scrF I L z (xRef A)) (0, 0) J L z (Int32.ofNat i) := by
    refine xcount _ (aW A).length ?_ ?_
    · intro i hi K J hJ j0 j1 j2
      refine g_X9_findPossible_11 (Nat.zero_le _) ?_
      have hM' := xTM_F hJ hM
      rw [j0.1, if_pos ((xv_lt (by omega) (by omega)).mpr hi)]
      refine xuse (t_hasSigns hA hM' j0 hi) (by decide) ?_
      rintro _ _ ⟨rfl, rfl⟩
      refine g_X9_findPossible_24 (Nat.zero_le _) ?_
      have hsn := gd_filter_snoc (A := A) hi
      have hfl : (((aW A).take i).filter (aHas A)).length ≤ i := Nat.le_trans (List.length_filter_le _ _) (by rw [List.length_take]; omega)
      by_cases c : aHas A ((aW A).getD i 0) = true
      · rw [if_pos c] at hsn ⊢
        have q1 : (((aW A).take i).filter (aHas A)).length < 720 := by omega
        rw [if_neg (by decide), j1]
        simp (disch := omega) only [xl_0, xl_1, xl_2, xl_3, xl_4, xl_5, xl_6, xl_7, xl_8, xl_9, xl_10, xl_15, xl_18, xl_24, xl_31, xl_32, xl_36, xl_40, xl_48, xl_63, xl_64, xl_144, xl_250, xl_320, xl_720, xl_721, xl_1000, xl_1023, xl_1024, xv_lt, xv_eq, xv_in, xv_clamp, xv_add, xv_mul, xv_dec, xv_div, xv_mod, xv_m1, xv_m1', xv_and, xv_or, xv_shl, xv_shr, xv_bit0, xv_bit1, q1, if_true]
        refine K _ (xsm_xw (Or.inr (by omega)) (xsm_xw (Or.inl ⟨rfl, Or.inr rfl⟩) hJ)) (xRows_codes j0 (by rw [xw_ne1 (by decide), xw_ne2 (by decide)]) (fun k => by rw [xw_ne1 (by decide), xw_ne1 (by decide)])) ?_ ?_
        · rw [hsn, List.length_append, xw_ne1 (by decide), xw_eq]; rfl
        · obtain ⟨ix, hx⟩ := j2
          refine ⟨fun j => if j = (((aW A).take i).filter (aHas A)).length then i else ix j, fun j hj => ?_⟩
          rw [hsn, List.length_append] at hj
          simp only [List.length_singleton] at hj
          rw [hsn, gd_snoc]
          dsimp only
          by_cases e : j = (((aW A).take i).filter (aHas A)).length
          · rw [if_pos e, if_neg (show ¬ j < (((aW A).take i).filter (aHas A)).length by omega), if_pos e]
            exact ⟨hi, rfl, by rw [e, xw_eq]⟩
          · rw [if_neg e, if_pos (by omega), xw_ne2 e, xw_ne1 (by decide)]
            exact hx j (by omega)
      · rw [if_neg c] at hsn ⊢
        rw [if_pos rfl, show Int32.ofNat i + 1 = Int32.ofNat (i + 1) from xv_add i 1]
        rw [← hsn] at j1 j2
        exact K J hJ j0 j1 j2
    · intro J hJ j0 j1 j2
      refine g_X9_findPossible_11 (Nat.zero_le _) ?_
      rw [List.take_length] at j1 j2
      rw [j0.1, if_neg (fun q => Nat.lt_irrefl _ ((xv_lt (by omega) (by omega)).mp q))]
      exact ⟨rfl, J, rfl, hJ, j0, j1, j2⟩
  refine key 0 (Nat.zero_le _) _ hJ0 (xRows_codes k1 (xw_ne2 (by decide)) (fun k => xw_ne1 (by decide))) (by rw [xw_eq]; rfl) ⟨fun _ => 0, fun j hj => by simp at hj⟩
/-- what stands at a place of a possible world -/
theorem xRef_at {A : xAb} {I : xI} (hA : abOK A) (h : xRef A I) {j p : Nat} (hj : j < (aP A).length) (hp : p < ab_n A) : ∃ i, i < 720 ∧ I 108 j = Int32.ofNat i ∧ i * 6 + p < 4320 ∧ I 105 (i * 6 + p) = Int32.ofNat (wd ((aP A).getD j 0) p) := by
  obtain ⟨ix, hx⟩ := h.2.2
  obtain ⟨a, b, c⟩ := hx j hj
  have h7 := (aW_len hA).2
  have h6 := hA.1.2
  refine ⟨ix j, by omega, c, by omega, ?_⟩
  rw [← b]
  exact h.1.2 _ a p hp
theorem aP_wd {A : xAb} (hA : abOK A) {j p : Nat} (hj : j < (aP A).length) (hp : p < 6) : wd ((aP A).getD j 0) p < 6 := (aW_wd hA (aP_mem.mp (gd_mem hj)).1 hp).1
