theorem xRows_codes {n : Nat} {l : List Nat} {I : xI} (h : xRows n l I) {J : xI} (e : J 66 32 = I 66 32) (f : ∀ k, J 105 k = I 105 k) : xRows n l J := ⟨e.trans h.1, fun i hi p hp => (f _).trans (h.2 i hi p hp)⟩
theorem t_keepNow {A : xAb} {I : xI} {L : xL} {z : Bool × Bool × Nat} {l : List Nat} {f : Nat → Nat} (hA : abOK A) (hM : xTM I 66 A) (hl : xRows (ab_n A) l I) (h7 : l.length < 720) (hf : ∀ p, p < ab_n A → f p < 8) (hn : ∀ p, p < ab_n A → I 106 p = Int32.ofNat (f p)) : xCd 1 237 [.ref 66] (xS I L z) (qN (fun o k => (o = 66 ∧ k = 32) ∨ o = 105) I L z (xRows (ab_n A) (l ++ [wc f (ab_n A)]))) := by
  refine c_X9_keepNow (g_X9_keepNow_0 (Nat.zero_le _) ?_)
  have h6 := hA.1.2
  have nn := hM.1.1
  have key : ∀ p, p ≤ ab_n A → ∀ J : xI, xsm (fun o k => (o = 66 ∧ k = 32) ∨ o = 105) I J → J 66 32 = Int32.ofNat l.length → (∀ k, k < l.length * 6 → J 105 k = I 105 k) → (∀ q, q < p → J 105 (l.length * 6 + q) = Int32.ofNat (f q)) → h_X9_keepNow_2 0 (qN (fun o k => (o = 66 ∧ k = 32) ∨ o = 105) I L z (xRows (ab_n A) (l ++ [wc f (ab_n A)]))) (0, 0) J L z (Int32.ofNat p) := by
    refine xcount _ (ab_n A) ?_ ?_
    · intro p hp K J hJ j0 j1 j2
      refine g_X9_keepNow_2 (Nat.zero_le _) ?_
      have p6 : p < 6 := by omega
      have q1 : l.length * 6 + p < 4320 := by omega
      have nn' : J 66 9 = Int32.ofNat (ab_n A) := (hJ _ _ (by omega)).trans nn
      have q2 : J 106 p = Int32.ofNat (f p) := (hJ _ _ (by omega)).trans (hn p hp)
      simp (disch := omega) only [xl_0, xl_1, xl_2, xl_3, xl_4, xl_5, xl_6, xl_7, xl_8, xl_9, xl_10, xl_15, xl_18, xl_24, xl_31, xl_32, xl_36, xl_40, xl_48, xl_63, xl_64, xl_144, xl_250, xl_320, xl_720, xl_721, xl_1000, xl_1023, xl_1024, xv_lt, xv_eq, xv_in, xv_clamp, xv_add, xv_mul, xv_dec, xv_div, xv_mod, xv_m1, xv_m1', xv_and, xv_or, xv_shl, xv_shr, xv_bit0, xv_bit1, nn', hp, p6, j0, q1, q2, if_true]
      refine K _ (xsm_xw (Or.inr rfl) hJ) (by rw [xw_ne1 (by decide)]; exact j0) (fun k hk => by rw [xw_ne2 (by omega)]; exact j1 k hk) ?_
      intro q hq
      by_cases e : q = p
      · rw [e, xw_eq]
      · rw [xw_ne2 (by omega)]; exact j2 q (by omega)
    · intro J hJ j0 j1 j2
      refine g_X9_keepNow_2 (Nat.zero_le _) ?_
      have nn' : J 66 9 = Int32.ofNat (ab_n A) := (hJ _ _ (by omega)).trans nn
      rw [nn', if_neg (fun q => Nat.lt_irrefl _ ((xv_lt (by omega) (by omega)).mp q)), j0, show Int32.ofNat l.length + 1 = Int32.ofNat (l.length + 1) from xv_add _ 1]
      refine ⟨rfl, _, rfl, xsm_xw (Or.inl ⟨rfl, rfl⟩) hJ, ?_, ?_⟩
      · rw [xw_eq, List.length_append]; rfl
      · intro k hk p hp
        rw [List.length_append] at hk
        simp only [List.length_singleton] at hk
        rw [gd_snoc, xw_ne1 (by decide)]
        by_cases e1 : k < l.length
        · rw [if_pos e1, j1 _ (by omega)]; exact hl.2 k e1 p hp
        · rw [if_neg e1, if_pos (show k = l.length by omega), show k = l.length from by omega, j2 p hp, wd_wc h6 hf (by omega), if_pos hp]
  exact key 0 (Nat.zero_le _) I (xsm_refl _ _) hl.1 (fun k _ => rfl) (fun q hq => absurd hq (Nat.not_lt_zero _))
theorem gd_app {pre r : List Nat} {k : Nat} : gd (pre ++ r) k = if k < pre.length then gd pre k else gd r (k - pre.length) := by
  unfold gd
  rw [List.getD_eq_getElem?_getD, List.getD_eq_getElem?_getD, List.getD_eq_getElem?_getD]
  by_cases e : k < pre.length
  · rw [if_pos e, List.getElem?_append_left e]
  · rw [if_neg e, List.getElem?_append_right (by omega)]
/-- the slots that the search for worlds changes for good -/
def scrK : Nat → Nat → Prop := fun o k => (o = 66 ∧ k = 32) ∨ o = 105 ∨ o = 106 ∨ o = 107
theorem xTM_K {I J : xI} {A : xAb} (h : xsm scrK I J) (q : xTM I 66 A) : xTM J 66 A := xTM_F (xsm_mono h (fun o k e => by unfold scrK at e; unfold scrF; omega)) q
theorem t_seekWorlds {A : xAb} {L : xL} {z : Bool × Bool × Nat} (hA : abOK A) : ∀ m p, p + m = ab_n A → ∀ (pre : List Nat) (c : Nat → Nat) (l : List Nat) (I : xI), pre.length = p → (∀ v, v ∈ pre → v < 6) → mixS c 6 = m → xTM I 66 A → xRows (ab_n A) l I → l.length + (mixR m c).length ≤ 720 → (∀ s, s < 6 → I 107 s = Int32.ofNat (c s)) → (∀ q, q < p → I 106 q = Int32.ofNat (gd pre q)) →
    xCd (m + 2) 236 [.ref 66, .int (Int32.ofNat p)] (xS I L z) (qN scrK I L z (fun J => xRows (ab_n A) (l ++ (mixR m c).map (fun r => wc (gd (pre ++ r)) (ab_n A))) J ∧ (∀ s, s < 6 → J 107 s = Int32.ofNat (c s)) ∧ (∀ q, q < p → J 106 q = Int32.ofNat (gd pre q)))) := by
  have h6 := hA.1.2
  intro m
  induction m with
  | zero =>
    intro p hp pre c l I h1 hpre h2 hM hl h7 hc hn
    refine c_X9_seekWorlds (g_X9_seekWorlds_0 (by decide) ?_)
    have nn := hM.1.1
    have e : p = ab_n A := by omega
    subst e
    rw [nn, if_pos rfl]
    have hm : mixR 0 c = [[]] := rfl
    rw [hm] at h7 ⊢
    simp only [List.length_singleton] at h7
    refine xuse (t_keepNow (f := gd pre) hA hM hl (by omega) (fun q hq => by have := hpre _ (gd_mem (show q < pre.length by omega)); unfold gd; omega) hn) (by decide) ?_
    rintro _ _ ⟨rfl, J, rfl, hJ, j1⟩
    refine g_X9_seekWorlds_12 (by decide) ⟨rfl, J, rfl, xsm_mono hJ (fun o k e => by unfold scrK; omega), ?_, fun s hs => ?_, fun q hq => ?_⟩
    · rw [List.map_singleton, List.append_nil]; exact j1
    · rw [hJ _ _ (by omega)]; exact hc s hs
    · rw [hJ _ _ (by omega)]; exact hn q hq
  | succ m ih =>
    intro p hp pre c l I h1 hpre h2 hM hl h7 hc hn
    refine c_X9_seekWorlds (g_X9_seekWorlds_0 (Nat.zero_le _) ?_)
    have nn := hM.1.1
    rw [nn, if_neg (fun q => by have := (xv_eq (by omega) (by omega)).mp q; omega)]
    have p6 : p < 6 := by omega
    have hle : ∀ s, s < 6 → (mixP (mixR m) c s).length + (mixB (mixR m) c s).length ≤ (mixR (m + 1) c).length := by
      have mono : ∀ s t, s ≤ t → (mixP (mixR m) c s).length ≤ (mixP (mixR m) c t).length := by
        intro s t hst
        induction hst with
        | refl => exact Nat.le_refl _
        | step _ ih => exact Nat.le_trans ih (by simp only [mixP]; rw [List.length_append]; omega)
      intro s hs
      have := mono (s + 1) 6 (by omega)
      simp only [mixP] at this
      rw [List.length_append] at this
      show _ ≤ (mixP (mixR m) c 6).length
      simp only [mixP]
      exact this
    have key : ∀ s, s ≤ 6 → ∀ J : xI, xsm scrK I J → xRows (ab_n A) (l ++ (mixP (mixR m) c s).map (fun r => wc (gd (pre ++ r)) (ab_n A))) J → (∀ s, s < 6 → J 107 s = Int32.ofNat (c s)) → (∀ q, q < p → J 106 q = Int32.ofNat (gd pre q)) → h_X9_seekWorlds_15 (m + 2) (qN scrK I L z (fun J => xRows (ab_n A) (l ++ (mixR (m + 1) c).map (fun r => wc (gd (pre ++ r)) (ab_n A))) J ∧ (∀ s, s < 6 → J 107 s = Int32.ofNat (c s)) ∧ (∀ q, q < p → J 106 q = Int32.ofNat (gd pre q)))) (0, 0) J L z (Int32.ofNat p) (Int32.ofNat s) := by
      refine xcount _ 6 ?_ ?_
      · intro s hs K J hJ j0 j1 j2
        refine g_X9_seekWorlds_15 (Nat.zero_le _) ?_
        have cs : c s ≤ 6 := by
          have := mixS_mono (c := c) (show s + 1 ≤ 6 by omega)
          simp only [mixS] at this h2
          omega
        simp (disch := omega) only [xl_0, xl_1, xl_2, xl_3, xl_4, xl_5, xl_6, xl_7, xl_8, xl_9, xl_10, xl_15, xl_18, xl_24, xl_31, xl_32, xl_36, xl_40, xl_48, xl_63, xl_64, xl_144, xl_250, xl_320, xl_720, xl_721, xl_1000, xl_1023, xl_1024, xv_lt, xv_eq, xv_in, xv_clamp, xv_add, xv_mul, xv_dec, xv_div, xv_mod, xv_m1, xv_m1', xv_and, xv_or, xv_shl, xv_shr, xv_bit0, xv_bit1, hs, p6, j1 s hs, if_true]
        by_cases e : 0 < c s
        · rw [if_pos e]
          have hB : mixB (mixR m) c s = (mixR m (mixD c s)).map (fun r => s :: r) := by unfold mixB; rw [if_pos e]
          have hle' := hle s hs
          rw [hB, List.length_map] at hle'
          have hD := mixS_D e 6
          rw [if_pos hs] at hD
          have hJ' : xsm scrK I (xw (xw J 107 s (Int32.ofNat (c s) - Int32.ofNat 1)) 106 p (Int32.ofNat s)) := xsm_xw (Or.inr (Or.inr (Or.inl rfl))) (xsm_xw (Or.inr (Or.inr (Or.inr rfl))) hJ)
          have q := ih (p + 1) (by omega) (pre ++ [s]) (mixD c s) (l ++ (mixP (mixR m) c s).map (fun r => wc (gd (pre ++ r)) (ab_n A))) _ (by rw [List.length_append]; simp [h1]) (by
              intro v hv
              rcases List.mem_append.mp hv with hv | hv
              · exact hpre v hv
              · rw [List.mem_singleton] at hv; rw [hv]; exact hs) (by omega) (xTM_K hJ' hM) (xRows_codes j0 (by rw [xw_ne1 (by decide), xw_ne1 (by decide)]) (fun k => by rw [xw_ne1 (by decide), xw_ne1 (by decide)])) (by rw [List.length_append, List.length_map]; omega) (by
              intro t ht
              rw [xw_ne1 (by decide)]
              by_cases d : t = s
              · rw [d, xw_eq, xv_sub (show 1 ≤ c s by omega)]; unfold mixD; rw [if_pos rfl]
              · rw [xw_ne2 d, j1 t ht]; unfold mixD; rw [if_neg d]) (by
              intro q hq
              rw [gd_app]
              by_cases d : q = p
              · rw [d, xw_eq, if_neg (by omega), show p - pre.length = 0 from by omega]; rfl
              · rw [xw_ne2 d, xw_ne1 (by decide), if_pos (by omega)]; exact j2 q (by omega))
          refine xuse q (Nat.le_refl _) ?_
          rintro _ _ ⟨rfl, J', rfl, k0, k1, k2, k3⟩
          refine g_X9_seekWorlds_54 (Nat.zero_le _) ?_
          simp (disch := omega) only [xl_0, xl_1, xl_2, xl_3, xl_4, xl_5, xl_6, xl_7, xl_8, xl_9, xl_10, xl_15, xl_18, xl_24, xl_31, xl_32, xl_36, xl_40, xl_48, xl_63, xl_64, xl_144, xl_250, xl_320, xl_720, xl_721, xl_1000, xl_1023, xl_1024, xv_lt, xv_eq, xv_in, xv_clamp, xv_add, xv_mul, xv_dec, xv_div, xv_mod, xv_m1, xv_m1', xv_and, xv_or, xv_shl, xv_shr, xv_bit0, xv_bit1, hs, k2 s hs, if_true]
          have es : mixD c s s + 1 = c s := by unfold mixD; rw [if_pos rfl]; omega
          rw [es]
          refine K _ (xsm_xw (Or.inr (Or.inr (Or.inr rfl))) (xsm_trans hJ' k0)) ?_ ?_ ?_
          · refine xRows_codes ?_ (xw_ne1 (by decide)) (fun k => xw_ne1 (by decide))
            simp only [mixP]
            rw [hB, List.map_append, ← List.append_assoc, List.map_map]
            have : (mixR m (mixD c s)).map ((fun r => wc (gd (pre ++ r)) (ab_n A)) ∘ fun r => s :: r) = (mixR m (mixD c s)).map (fun r => wc (gd (pre ++ [s] ++ r)) (ab_n A)) := by
              refine List.map_congr_left fun r _ => ?_
              show wc (gd (pre ++ s :: r)) _ = wc (gd (pre ++ [s] ++ r)) _
              rw [List.append_assoc]; rfl
            rw [this]
            exact k1
          · intro t ht
            by_cases d : t = s
            · rw [d, xw_eq]
            · rw [xw_ne2 d, k2 t ht]; unfold mixD; rw [if_neg d]
          · intro q hq
            rw [xw_ne1 (by decide), k3 q (by omega), gd_app, if_pos (by omega)]
        · rw [if_neg e]
          have hB : mixB (mixR m) c s = [] := by unfold mixB; rw [if_neg e]
          refine K J hJ ?_ j1 j2
          simp only [mixP]
          rw [hB, List.append_nil]; exact j0
      · intro J hJ j0 j1 j2
        refine g_X9_seekWorlds_15 (Nat.zero_le _) ?_
        rw [if_neg (by decide)]
        exact ⟨rfl, J, rfl, hJ, j0, j1, j2⟩
    refine key 0 (by decide) I (xsm_refl _ _) ?_ hc hn
    simp only [mixP]
    rw [List.map_nil, List.append_nil]
    exact hl
theorem aRot_lt {A : xAb} (hA : abOK A) {k p : Nat} (hk : k ≤ ab_n A) (hp : p < ab_n A) : aRot A k p < 6 := by
  have h6 := hA.1.2
  unfold aRot
  by_cases e : p < k
  · rw [if_pos e]; exact hA.2.2.1 _ (by omega)
  · rw [if_neg e]; exact hA.2.2.1 _ (by omega)
theorem t_findWorlds {A : xAb} {I : xI} {L : xL} {z : Bool × Bool × Nat} (hA : abOK A) (hM : xTM I 66 A) : xCd 9 241 [.ref 66] (xS I L z) (qN scrK I L z (xRows (ab_n A) (aW A))) := by
  refine c_X9_findWorlds (g_X9_findWorlds_0 (Nat.zero_le _) ?_)
  have h6 := hA.1.2
  have h2 := hA.1.1
  have l2 := hA.2.1
  have hl : (xw I 66 32 0) 66 10 = Int32.ofNat (ab_law A) := by rw [xw_ne2 (by decide)]; exact hM.1.2.1
  have hJ0 : xsm scrK I (xw I 66 32 0) := xsm_xw (Or.inl ⟨rfl, rfl⟩) (xsm_refl _ _)
  rw [hl]
  by_cases c2 : ab_law A = 2
  · have ew : aW A = aMix A := if_pos c2
    rw [if_pos (by rw [c2]; rfl)]
    -- so many of each sort
    have k36 : ∀ i, i ≤ ab_n A → ∀ J : xI, xsm scrK I J → J 66 32 = 0 → (∀ s, s < 6 → J 107 s = Int32.ofNat (fcnt (ab_pour A) s i)) → h_X9_findWorlds_36 8 (qN scrK I L z (xRows (ab_n A) (aW A))) (0, 0) J L z (Int32.ofNat i) := by
      refine xcount _ (ab_n A) ?_ ?_
      · intro i hi K J hJ j0 j1
        refine g_X9_findWorlds_36 (Nat.zero_le _) ?_
        have hM' := xTM_K hJ hM
        have nn := hM'.1.1
        have i6 : i < 6 := by omega
        have hv : J 83 i = Int32.ofNat (ab_pour A i) := hM'.2.1 i i6
        have hp := hA.2.2.1 i i6
        simp (disch := omega) only [xl_0, xl_1, xl_2, xl_3, xl_4, xl_5, xl_6, xl_7, xl_8, xl_9, xl_10, xl_15, xl_18, xl_24, xl_31, xl_32, xl_36, xl_40, xl_48, xl_63, xl_64, xl_144, xl_250, xl_320, xl_720, xl_721, xl_1000, xl_1023, xl_1024, xv_lt, xv_eq, xv_in, xv_clamp, xv_add, xv_mul, xv_dec, xv_div, xv_mod, xv_m1, xv_m1', xv_and, xv_or, xv_shl, xv_shr, xv_bit0, xv_bit1, nn, hi, i6, hv, hp, j1 _ hp, if_true]
        refine K _ (xsm_xw (Or.inr (Or.inr (Or.inr rfl))) hJ) (by rw [xw_ne1 (by decide)]; exact j0) ?_
        intro s hs
        simp only [fcnt]
        by_cases e : s = ab_pour A i
        · rw [e, xw_eq, if_pos rfl]
        · rw [xw_ne2 e, if_neg (fun q => e q.symm)]; exact j1 s hs
      · intro J hJ j0 j1
        refine g_X9_findWorlds_36 (Nat.zero_le _) ?_
        have hM' := xTM_K hJ hM
        have nn := hM'.1.1
        rw [nn, if_neg (fun q => Nat.lt_irrefl _ ((xv_lt (by omega) (by omega)).mp q))]
        have q := t_seekWorlds (L := L) (z := z) hA (ab_n A) 0 (by omega) [] (aC A) [] J rfl (fun v hv => by simp at hv) (aC_sum hA) hM' ⟨j0, fun i hi => by simp at hi⟩ (by
          have q := mixR_len (ab_n A) (aC A) (aC_sum hA)
          have : mixF (ab_n A) ≤ 720 := by
            have hn : ab_n A = 2 ∨ ab_n A = 3 ∨ ab_n A = 4 ∨ ab_n A = 5 ∨ ab_n A = 6 := by omega
            rcases hn with e | e | e | e | e <;> rw [e] <;> decide
          simp only [List.length_nil]
          omega) j1 (fun q hq => absurd hq (Nat.not_lt_zero _))
        refine xuse q (by omega) ?_
        rintro _ _ ⟨rfl, J', rfl, k0, k1, _⟩
        refine g_X9_findWorlds_70 (Nat.zero_le _) ⟨rfl, J', rfl, xsm_trans hJ k0, ?_⟩
        rw [ew]
        exact k1
    have k15 : ∀ s, s ≤ 6 → ∀ J : xI, xsm scrK I J → J 66 32 = 0 → (∀ t, t < s → J 107 t = 0) → h_X9_findWorlds_15 8 (qN scrK I L z (xRows (ab_n A) (aW A))) (0, 0) J L z (Int32.ofNat s) := by
      refine xcount _ 6 ?_ ?_
      · intro s hs K J hJ j0 j1
        refine g_X9_findWorlds_15 (Nat.zero_le _) ?_
        simp (disch := omega) only [xl_0, xl_1, xl_2, xl_3, xl_4, xl_5, xl_6, xl_7, xl_8, xl_9, xl_10, xl_15, xl_18, xl_24, xl_31, xl_32, xl_36, xl_40, xl_48, xl_63, xl_64, xl_144, xl_250, xl_320, xl_720, xl_721, xl_1000, xl_1023, xl_1024, xv_lt, xv_eq, xv_in, xv_clamp, xv_add, xv_mul, xv_dec, xv_div, xv_mod, xv_m1, xv_m1', xv_and, xv_or, xv_shl, xv_shr, xv_bit0, xv_bit1, hs, if_true]
        refine K _ (xsm_xw (Or.inr (Or.inr (Or.inr rfl))) hJ) (by rw [xw_ne1 (by decide)]; exact j0) ?_
        intro t ht
        by_cases e : t = s
        · rw [e, xw_eq]; rfl
        · rw [xw_ne2 e]; exact j1 t (by omega)
      · intro J hJ j0 j1
        refine g_X9_findWorlds_15 (Nat.zero_le _) ?_
        rw [if_neg (by decide)]
        exact k36 0 (Nat.zero_le _) J hJ j0 (fun s hs => j1 s hs)
    exact k15 0 (by decide) _ hJ0 (xw_eq _ _ _ _) (fun t ht => absurd ht (Nat.not_lt_zero _))
  · rw [if_neg (show ¬ Int32.ofNat (ab_law A) = (2 : Int32) from fun q => c2 ((xv_eq (b := 2) (by omega) (by decide)).mp q))]
    obtain ⟨m, em, hm⟩ : ∃ m, m = (if ab_law A = 0 then 1 else ab_n A) ∧ m ≤ ab_n A := ⟨_, rfl, by split <;> omega⟩
    have ew : aW A = aTurn A m := by unfold aW; rw [if_neg c2, em]
    have key : ∀ k, k ≤ m → ∀ J : xI, xsm scrK I J → xRows (ab_n A) (aTurn A k) J → h_X9_findWorlds_73 8 (qN scrK I L z (xRows (ab_n A) (aW A))) (0, 0) J L z (Int32.ofNat k) := by
      refine xcount _ m ?_ ?_
      · intro k hk K J hJ j0
        refine g_X9_findWorlds_73 (Nat.zero_le _) ?_
        have hM' := xTM_K hJ hM
        have nn := hM'.1.1
        have ll : J 66 10 = Int32.ofNat (ab_law A) := hM'.1.2.1
        have body : xCd 8 239 [.ref 66, .int (Int32.ofNat k)] (xS J L z) (fun r τ => xEX k_X9_findWorlds 0 (xCd 8) (qN scrK I L z (xRows (ab_n A) (aW A))) 98 [some (.ref 66), some (.int (Int32.ofNat k))] (r.toList ++ []) τ (0, 0)) := by
          refine xuse (t_turnNow hA hM' (by omega)) (by decide) ?_
          rintro _ _ ⟨rfl, J1, rfl, k0, k1⟩
          refine g_X9_findWorlds_98 (Nat.zero_le _) ?_
          have hJ1 : xsm scrK I J1 := xsm_trans hJ (xsm_mono k0 (fun o k e => by unfold scrK; unfold xAt at e; omega))
          have hl := aTurn_len (A := A) k
          refine xuse (t_putNow (f := aRot A k) hA (xTM_K hJ1 hM) (xRows_codes j0 (k0 _ _ (by unfold xAt; omega)) (fun x => k0 _ _ (by unfold xAt; omega))) (by omega) (aTurn_srt k) (fun w hw => by
            obtain ⟨g, a, b, _⟩ := aTurn_mem hA k (by omega) hw
            exact ⟨g, a, b⟩) (fun p hp => aRot_lt hA (by omega) hp) k1) (by decide) ?_
          rintro _ _ ⟨rfl, J2, rfl, m0, m1⟩
          refine g_X9_findWorlds_102 (Nat.zero_le _) ?_
          rw [show Int32.ofNat k + 1 = Int32.ofNat (k + 1) from xv_add k 1]
          exact K J2 (xsm_trans hJ1 (xsm_mono m0 (fun o k e => by unfold scrK; omega))) m1
        rw [ll, nn]
        by_cases c1 : ab_law A = 1
        · rw [if_pos (by rw [c1]; rfl), if_pos ((xv_lt (by omega) (by omega)).mpr (by rw [if_neg (by omega)] at em; omega))]
          exact body
        · rw [if_neg (show ¬ Int32.ofNat (ab_law A) = (1 : Int32) from fun q => c1 ((xv_eq (b := 1) (by omega) (by decide)).mp q)), if_pos (show Int32.ofNat k < (1 : Int32) from (xv_lt (b := 1) (by omega) (by decide)).mpr (by rw [if_pos (by omega)] at em; omega))]
          exact body
      · intro J hJ j0
        refine g_X9_findWorlds_73 (Nat.zero_le _) ?_
        have hM' := xTM_K hJ hM
        have nn := hM'.1.1
        have ll : J 66 10 = Int32.ofNat (ab_law A) := hM'.1.2.1
        have fin : qN scrK I L z (xRows (ab_n A) (aW A)) none (xS J L z) := ⟨rfl, J, rfl, hJ, by rw [ew]; exact j0⟩
        rw [ll, nn]
        by_cases c1 : ab_law A = 1
        · rw [if_pos (by rw [c1]; rfl), if_neg (fun q => by have := (xv_lt (by omega) (by omega)).mp q; rw [if_neg (by omega)] at em; omega)]
          exact fin
        · rw [if_neg (show ¬ Int32.ofNat (ab_law A) = (1 : Int32) from fun q => c1 ((xv_eq (b := 1) (by omega) (by decide)).mp q)), if_neg (show ¬ Int32.ofNat m < (1 : Int32) from fun q => by have := (xv_lt (b := 1) (by omega) (by decide)).mp q; rw [if_pos (by omega)] at em; omega)]
          exact fin
    exact key 0 (Nat.zero_le _) _ hJ0 ⟨xw_eq _ _ _ _, fun i hi => by simp [aTurn] at hi⟩
