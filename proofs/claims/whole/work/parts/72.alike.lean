/-! promises marks and apart -/
def mxA (kl : List Nat) : Nat → Nat
  | 0 => 0
  | i + 1 => if mxA kl i < (kl.take i).count (kl.getD i 0) + 1 then (kl.take i).count (kl.getD i 0) + 1 else mxA kl i
def mxB (kl : List Nat) : Nat → Nat
  | 0 => 0
  | i + 1 => if mxB kl i < kl.count (kl.getD i 0) then kl.count (kl.getD i 0) else mxB kl i
theorem mxA_ge {kl : List Nat} {k : Nat} : ∀ i, i ≤ kl.length → (kl.take i).count k ≤ mxA kl i
  | 0, _ => by simp
  | i + 1, h => by
    have ih := mxA_ge (kl := kl) (k := k) i (by omega)
    rw [take_snoc (by omega), List.count_append]
    simp only [mxA]
    by_cases e : kl.getD i 0 = k
    · subst e
      rw [List.count_singleton_self]
      split <;> omega
    · rw [List.count_singleton, if_neg (by simp; exact e)]
      split <;> omega
theorem mxA_le {kl : List Nat} : ∀ i, i ≤ kl.length → mxA kl i ≤ mxB kl i
  | 0, _ => Nat.le_refl _
  | i + 1, h => by
    have ih := mxA_le (kl := kl) i (by omega)
    simp only [mxA, mxB]
    have : (kl.take i).count (kl.getD i 0) + 1 ≤ kl.count (kl.getD i 0) := by
      have q : (kl.take (i + 1)).count (kl.getD i 0) ≤ kl.count (kl.getD i 0) := List.Sublist.count_le _ (List.take_sublist _ _)
      rw [take_snoc (by omega), List.count_append, List.count_singleton_self] at q
      exact q
    split <;> split <;> omega
theorem mxB_le {kl : List Nat} : ∀ i, mxB kl i ≤ mxA kl kl.length
  | 0 => Nat.zero_le _
  | i + 1 => by
    have ih := mxB_le (kl := kl) i
    have := mxA_ge (kl := kl) (k := kl.getD i 0) kl.length (Nat.le_refl _)
    rw [List.take_length] at this
    simp only [mxB]
    split <;> omega
theorem mx_eq (kl : List Nat) : mxA kl kl.length = mxB kl kl.length := Nat.le_antisymm (mxA_le _ (Nat.le_refl _)) (mxB_le _)
theorem mxA_len {kl : List Nat} : ∀ i, mxA kl i ≤ kl.length + 1
  | 0 => Nat.zero_le _
  | i + 1 => by
    have ih := mxA_len (kl := kl) i
    have : (kl.take i).count (kl.getD i 0) ≤ kl.length := Nat.le_trans List.count_le_length (by rw [List.length_take]; omega)
    simp only [mxA]
    split <;> omega
theorem mxB_len {kl : List Nat} : ∀ i, mxB kl i ≤ kl.length
  | 0 => Nat.zero_le _
  | i + 1 => by
    have ih := mxB_len (kl := kl) i
    have : kl.count (kl.getD i 0) ≤ kl.length := List.count_le_length
    simp only [mxB]
    split <;> omega
theorem lk_ex (A : xAb) (ks : Nat) : ∃ lk : Nat → Nat, ∀ s, isLk A ks s (lk s) := by
  have one : ∀ s, ∃ l, isLk A ks s l := by
    intro s
    have key : ∀ m, m ≤ s → (∀ j, j < m → ¬ alk A ks s j) ∨ ∃ l, isLk A ks s l := by
      intro m
      induction m with
      | zero => exact fun _ => Or.inl fun j hj => absurd hj (Nat.not_lt_zero _)
      | succ m ih =>
        intro hm
        rcases ih (by omega) with h | h
        · by_cases c : alk A ks s m
          · exact Or.inr ⟨m, by omega, c, h⟩
          · refine Or.inl fun j hj => ?_
            by_cases x : j = m
            · rw [x]; exact c
            · exact h j (by omega)
        · exact Or.inr h
    rcases key s (Nat.le_refl _) with h | h
    · exact ⟨s, Nat.le_refl _, fun _ _ _ => rfl, h⟩
    · exact h
  exact ⟨fun s => Classical.choose (one s), fun s => Classical.choose_spec (one s)⟩
def aKey (A : xAb) (lk : Nat → Nat) (w : Nat) : Nat := wc (fun p => lk (wd w p)) (ab_n A)
theorem aKey_lt {A : xAb} {ks w : Nat} {lk : Nat → Nat} (hA : abOK A) (hl : ∀ s, isLk A ks s (lk s)) (hw : w ∈ aW A) : aKey A lk w < 262144 := wc_lt hA.1.2 fun i hi => by
  have h6 := hA.1.2
  have := (aW_wd hA hw (show i < 6 by omega)).1
  have := (hl (wd w i)).1
  (try dsimp only); omega
theorem f_worldOf {A : xAb} {I : xI} {L : xL} {i : Nat} (h : xAll A I) (hl : (aW A).length ≤ 720) (hi : i < (aW A).length) : f_X7_worldOf I L (Int32.ofNat i) = Int32.ofNat ((aW A).getD i 0) := by
  unfold f_X7_worldOf
  have q := h.2 i hi
  have c : i < 720 := by omega
  simp (disch := omega) only [xl_0, xl_1, xl_2, xl_3, xl_4, xl_5, xl_6, xl_7, xl_8, xl_9, xl_10, xl_15, xl_18, xl_24, xl_31, xl_32, xl_36, xl_40, xl_48, xl_63, xl_64, xl_144, xl_250, xl_320, xl_720, xl_721, xl_1000, xl_1023, xl_1024, xv_lt, xv_eq, xv_in, xv_clamp, xv_add, xv_mul, xv_dec, xv_div, xv_mod, xv_m1, xv_m1', xv_and, xv_or, xv_shl, xv_shr, xv_bit0, xv_bit1, Nat.not_lt_zero, c, h.1, hi, q, if_true, if_false]
theorem gd_map {f : Nat → Nat} {l : List Nat} {i : Nat} (h : i < l.length) : (l.map f).getD i 0 = f (l.getD i 0) := by
  rw [List.getD_eq_getElem?_getD, List.getElem?_map, List.getElem?_eq_getElem h, List.getD_eq_getElem?_getD, List.getElem?_eq_getElem h]; rfl
def scrTL : Nat → Nat → Prop := fun o k => (o = 44 ∧ k = 3) ∨ o = 45 ∨ o = 46 ∨ o = 47 ∨ o = 48
theorem t_mostAlike {A : xAb} {I : xI} {L : xL} {z : Bool × Bool × Nat} {ks t : Nat} {lk : Nat → Nat} (hA : abOK A) (hX : xTX I 10 A) (hs : xShf I) (hW : xAll A I) (hk : ks < 16) (hlk : ∀ s, isLk A ks s (lk s)) (hT : xTal t I) (ht : t < 1000000) : xCd 4 23 [.ref 43, .int (Int32.ofNat ks)] (xS I L z) (qV scrTL I L z (Int32.ofNat (mxA ((aW A).map (aKey A lk)) (aW A).length)) (fun J => xTal (t + 1) J)) := by
  have h6 := hA.1.2
  have hl := (aW_len hA).2
  refine c_X1_mostAlike (g_X1_mostAlike_0 (by decide) ?_)
  refine xuse (t_findLikes hA hX hk) (by decide) ?_
  rintro _ _ ⟨rfl, J0, rfl, hJ0, lk', hlk'⟩
  have elk : ∀ s, s < 6 → lk' s = lk s := fun s hs6 => (lk_eq (hlk' s hs6).2 (hlk s)).mpr fun _ _ _ => rfl
  have hl6 : ∀ s, s < 6 → lk s < 6 := fun s hs6 => Nat.lt_of_le_of_lt (hlk s).1 hs6
  refine g_X1_mostAlike_5 (by decide) ?_
  have hT0 : xTal t J0 := xTal_sm hJ0 (fun o k e => by unfold scrL at e; omega) hT
  obtain ⟨n1, n2⟩ := tab_new (L := L) (z := z) hT0
  have key : ∀ i, i ≤ (aW A).length → ∀ J K, xsm scrTL I J → (∀ s, s < 6 → J 48 s = Int32.ofNat (lk s)) → xTab (t + 1) K (((aW A).take i).map (aKey A lk)) J → tabOK K (((aW A).take i).map (aKey A lk)) → h_X1_mostAlike_16 3 (qV scrTL I L z (Int32.ofNat (mxA ((aW A).map (aKey A lk)) (aW A).length)) (fun J => xTal (t + 1) J)) (0, 0) J L z (Int32.ofNat ks) (Int32.ofNat (mxA ((aW A).map (aKey A lk)) i)) (Int32.ofNat i) := by
    refine xcount _ (aW A).length ?_ ?_
    · intro i hi G J K hJ h48 hTb hO
      refine g_X1_mostAlike_16 (by decide) ?_
      have hX' : xTX J 10 A := xTX_sm hJ (fun k hk => by unfold scrTL; omega) (fun o a b k => by unfold scrTL; omega) hX
      have hs' : xShf J := xShf_sm hJ (fun k => by unfold scrTL; omega) hs
      have hW' : xAll A J := xAll_sm hJ ⟨by unfold scrTL; omega, fun k => by unfold scrTL; omega⟩ hW
      have hwi := gd_mem hi
      rw [f_worldOf hW' hl hi, hW'.1, if_pos ((xv_lt (by omega) (by omega)).mpr hi)]
      refine xuse (t_likeOf hA hX' hs' hwi (fun s hs6 => ⟨h48 s hs6, hl6 s hs6⟩)) (by decide) ?_
      rintro _ _ ⟨rfl, rfl⟩
      refine g_X1_mostAlike_44 (by decide) ?_
      have klt := aKey_lt hA hlk hwi
      refine xuse (t_add (k := aKey A lk ((aW A).getD i 0)) hTb hO (by omega) (fun k hk => by
        obtain ⟨w, hw, rfl⟩ := List.mem_map.mp hk
        have := aKey_lt hA hlk (List.mem_of_mem_take hw)
        omega) (by rw [List.length_map, List.length_take]; omega) (by omega)) (by decide) ?_
      rintro _ _ ⟨rfl, J', rfl, k0, K', k1, k2⟩
      refine g_X1_mostAlike_47 (by decide) ?_
      have hJ' : xsm scrTL I J' := xsm_trans hJ (xsm_mono k0 (fun o k e => by unfold scrT' at e; unfold scrTL; omega))
      have sn : ((aW A).take (i + 1)).map (aKey A lk) = ((aW A).take i).map (aKey A lk) ++ [aKey A lk ((aW A).getD i 0)] := by rw [take_snoc hi, List.map_append]; rfl
      rw [← sn] at k1 k2
      have q1 := mxA_len (kl := (aW A).map (aKey A lk)) i
      rw [List.length_map] at q1
      have q2 : (((aW A).take i).map (aKey A lk)).count (aKey A lk ((aW A).getD i 0)) ≤ 720 := Nat.le_trans List.count_le_length (by rw [List.length_map, List.length_take]; omega)
      have ee : (if Int32.ofNat (mxA ((aW A).map (aKey A lk)) i) < Int32.ofNat ((((aW A).take i).map (aKey A lk)).count (aKey A lk ((aW A).getD i 0)) + 1) then Int32.ofNat ((((aW A).take i).map (aKey A lk)).count (aKey A lk ((aW A).getD i 0)) + 1) else Int32.ofNat (mxA ((aW A).map (aKey A lk)) i)) = Int32.ofNat (mxA ((aW A).map (aKey A lk)) (i + 1)) := by
        simp only [mxA]
        rw [gd_map hi, ← List.map_take]
        by_cases c : mxA ((aW A).map (aKey A lk)) i < (((aW A).take i).map (aKey A lk)).count (aKey A lk ((aW A).getD i 0)) + 1
        · rw [if_pos c, if_pos ((xv_lt (by omega) (by omega)).mpr c)]
        · rw [if_neg c, if_neg (fun x => c ((xv_lt (by omega) (by omega)).mp x))]
      rw [ee, show Int32.ofNat i + 1 = Int32.ofNat (i + 1) from xv_add i 1]
      exact G J' K' hJ' (fun s hs6 => (k0 _ _ (by unfold scrT'; omega)).trans (h48 s hs6)) k1 k2
    · intro J K hJ h48 hTb hO
      refine g_X1_mostAlike_16 (by decide) ?_
      have hW' : xAll A J := xAll_sm hJ ⟨by unfold scrTL; omega, fun k => by unfold scrTL; omega⟩ hW
      rw [hW'.1, if_neg (fun q => Nat.lt_irrefl _ ((xv_lt (by omega) (by omega)).mp q))]
      exact ⟨rfl, J, rfl, hJ, tab_tal hTb⟩
  refine key 0 (Nat.zero_le _) _ _ (xsm_xw (Or.inl ⟨rfl, rfl⟩) (xsm_mono hJ0 (fun o k e => by unfold scrL at e; unfold scrTL; omega))) (fun s hs6 => ?_) n1 n2
  rw [xw_ne1 (by decide), (hlk' s hs6).1, elk s hs6]
theorem t_areAlikeM {A : xAb} {I : xI} {L : xL} {z : Bool × Bool × Nat} {i j ks : Nat} (hA : abOK A) (hM : xTM I 66 A) (hW : xRows (ab_n A) (aW A) I) (hi : i < (aW A).length) (hj : j < (aW A).length) (hk : ks < 16) : xCd 3 260 [.ref 66, .int (Int32.ofNat i), .int (Int32.ofNat j), .int (Int32.ofNat ks)] (xS I L z) (fun r τ => (∃ v : Int32, r = some (.int v) ∧ (v = 0 ↔ ¬ alW A ks ((aW A).getD i 0) ((aW A).getD j 0))) ∧ τ = xS I L z) := by
  have h6 := hA.1.2
  have nn := hM.1.1
  have h7 := (aW_len hA).2
  refine c_X9_areAlike (g_X9_areAlike_0 (by decide) ?_)
  have key : ∀ p, p ≤ ab_n A → (∀ q, q < p → alk A ks (wd ((aW A).getD i 0) q) (wd ((aW A).getD j 0) q)) → h_X9_areAlike_3 2 (fun r τ => (∃ v : Int32, r = some (.int v) ∧ (v = 0 ↔ ¬ alW A ks ((aW A).getD i 0) ((aW A).getD j 0))) ∧ τ = xS I L z) (0, 0) I L z (Int32.ofNat i) (Int32.ofNat j) (Int32.ofNat ks) (Int32.ofNat p) := by
    refine xcount _ (ab_n A) ?_ ?_
    · intro p hp K hq
      refine g_X9_areAlike_3 (by decide) ?_
      rw [nn, if_pos ((xv_lt (by omega) (by omega)).mpr hp)]
      have p6 : p < 6 := by omega
      have s1 := (aW_wd hA (gd_mem hi) p6).1
      have s2 := (aW_wd hA (gd_mem hj) p6).1
      have key2 : ∀ k, k ≤ 4 → (∀ m, m < k → ks.testBit m = true → aNum A m (wd ((aW A).getD i 0) p) = aNum A m (wd ((aW A).getD j 0) p)) → h_X9_areAlike_15 2 (fun r τ => (∃ v : Int32, r = some (.int v) ∧ (v = 0 ↔ ¬ alW A ks ((aW A).getD i 0) ((aW A).getD j 0))) ∧ τ = xS I L z) (0, 0) I L z (Int32.ofNat i) (Int32.ofNat j) (Int32.ofNat ks) (Int32.ofNat p) (Int32.ofNat k) := by
        refine xcount _ 4 ?_ ?_
        · intro k hk4 K2 hm
          refine g_X9_areAlike_15 (by decide) ?_
          obtain ⟨b1, _, b3⟩ := g_mark (I := I) (L := L) (z := z) s1
          obtain ⟨c1, _, c3⟩ := g_mark (I := I) (L := L) (z := z) s2
          have n1 := xTM_num hM s1 hk4
          have n2 := xTM_num hM s2 hk4
          have m1 := aNum_lt hA s1 hk4
          have m2 := aNum_lt hA s2 hk4
          have v1 := hW.2 i hi p hp
          have v2 := hW.2 j hj p hp
          have i1 : i * 6 + p < 4320 := by omega
          have i2 : j * 6 + p < 4320 := by omega
          by_cases b : ks.testBit k = true
          · have hb : p_X9_has I L (Int32.ofNat ks) (Int32.ofNat k) := (has_iff (by omega) (by omega)).mpr b
            rw [if_pos (show Int32.ofNat k < (4 : Int32) from (xv_lt (b := 4) (by omega) (by decide)).mpr hk4), if_pos hb]
            simp (disch := omega) only [xl_0, xl_1, xl_2, xl_3, xl_4, xl_5, xl_6, xl_7, xl_8, xl_9, xl_10, xl_15, xl_18, xl_24, xl_31, xl_32, xl_36, xl_40, xl_48, xl_63, xl_64, xl_144, xl_250, xl_320, xl_720, xl_721, xl_1000, xl_1023, xl_1024, xv_lt, xv_eq, xv_in, xv_clamp, xv_add, xv_mul, xv_dec, xv_div, xv_mod, xv_m1, xv_m1', xv_and, xv_or, xv_shl, xv_shr, xv_bit0, xv_bit1, i1, i2, v1, v2, s1, s2, b1, b3, c1, c3, hk4, n1, n2, cond_true, if_true]
            by_cases e : aNum A k (wd ((aW A).getD i 0) p) = aNum A k (wd ((aW A).getD j 0) p)
            · rw [if_pos e]
              refine K2 fun m hm' hb' => ?_
              by_cases c : m = k
              · rw [c]; exact e
              · exact hm m (by omega) hb'
            · rw [if_neg e]
              exact ⟨⟨_, rfl, ⟨fun _ x => e (x p hp k hk4 b), fun _ => rfl⟩⟩, trivial⟩
          · have hb : ¬ p_X9_has I L (Int32.ofNat ks) (Int32.ofNat k) := fun x => b ((has_iff (by omega) (by omega)).mp x)
            rw [if_pos (show Int32.ofNat k < (4 : Int32) from (xv_lt (b := 4) (by omega) (by decide)).mpr hk4), if_neg hb, show Int32.ofNat k + 1 = Int32.ofNat (k + 1) from xv_add k 1]
            refine K2 fun m hm' hb' => ?_
            by_cases c : m = k
            · rw [c] at hb'; exact absurd hb' b
            · exact hm m (by omega) hb'
        · intro hm
          refine g_X9_areAlike_15 (by decide) ?_
          rw [if_neg (by decide), show Int32.ofNat p + 1 = Int32.ofNat (p + 1) from xv_add p 1]
          refine K fun q hq' => ?_
          by_cases c : q = p
          · rw [c]; exact hm
          · exact hq q (by omega)
      exact key2 0 (Nat.zero_le _) (fun m hm => absurd hm (Nat.not_lt_zero _))
    · intro hq
      refine g_X9_areAlike_3 (by decide) ?_
      rw [nn, if_neg (fun q => Nat.lt_irrefl _ ((xv_lt (by omega) (by omega)).mp q))]
      exact ⟨⟨_, rfl, ⟨fun x => absurd x (by decide), fun x => absurd hq x⟩⟩, rfl⟩
  exact key 0 (Nat.zero_le _) (fun q hq => absurd hq (Nat.not_lt_zero _))
theorem pr_marks (a1 : Int32) : xPq 160 265 [.int a1] := by
  intro c A I L z hc h
  have hA := h.1.1
  have h6 := hA.1.2
  have hl := (aW_len hA).2
  have m1 : ∀ J : xI, p_X9_in J L (Int32.toInt64 a1) (Int64.ofNat 0) (Int64.ofNat 15) ↔ (0 ≤ a1.toInt ∧ a1.toInt < (16 : Nat)) := fun J => xm_in (by decide) (by decide)
  by_cases e : 0 ≤ a1.toInt ∧ a1.toInt < (16 : Nat)
  · obtain ⟨ks, hk, rfl⟩ := xr_nat e
    obtain ⟨lk, hlk⟩ := lk_ex A ks
    refine pr_q h 0 (Int32.ofNat (mxA ((aW A).map (aKey A lk)) (aW A).length)) ?_ ?_
    · refine c_X8_marks (d := 29) (g_X8_marks_0 (by decide) ?_)
      rw [if_neg (xv_neg (by omega)), if_neg (show ¬ (15 : Int32) < Int32.ofNat ks from fun q => by have := (xv_lt (a := 15) (by decide) (by omega)).mp q; omega)]
      refine u_refresh h (by decide) ?_
      intro J t hJ hF hX hs ha t1 t2
      refine g_X8_marks_24 (by decide) ?_
      refine xuse (t_mostAlike hA hX hs hF.2.2.1 hk hlk t2 (by omega)) (by decide) ?_
      rintro _ _ ⟨rfl, K, rfl, k0, k1⟩
      exact g_X8_marks_32 (by decide) (oX_ok (xsm_trans (xsm_mono hJ scrW_X) (xsm_mono k0 (fun o k e => by unfold scrTL at e; unfold scrX; omega))) (xCache_of (xFresh_sm k0 (fun o k e => by unfold scrTL at e; unfold noC; omega) hF)) k1 (by omega))
    · intro J hJ hM
      refine c_X9_marks (d := 29) (g_X9_marks_0 (by decide) ?_)
      rw [if_pos ((m1 J).mpr e)]
      refine xuse (t_findWorlds hA hM) (by decide) ?_
      rintro _ _ ⟨rfl, K, rfl, hK, hW⟩
      have hM' := xTM_K hK hM
      refine g_X9_marks_23 (by decide) ?_
      have em : mxA ((aW A).map (aKey A lk)) (aW A).length = mxB ((aW A).map (aKey A lk)) (aW A).length := by
        have := mx_eq ((aW A).map (aKey A lk))
        rw [List.length_map] at this
        exact this
      rw [em]
      have key : ∀ i, i ≤ (aW A).length → h_X9_marks_27 29 (oM J L z 0 (Int32.ofNat (mxB ((aW A).map (aKey A lk)) (aW A).length))) (0, 0) K L z (Int32.ofNat ks) (Int32.ofNat (mxB ((aW A).map (aKey A lk)) i)) (Int32.ofNat i) := by
        refine xcount _ (aW A).length ?_ ?_
        · intro i hi G
          refine g_X9_marks_27 (by decide) ?_
          rw [hW.1, if_pos ((xv_lt (by omega) (by omega)).mpr hi)]
          have key2 : ∀ j, j ≤ (aW A).length → h_X9_marks_41 29 (oM J L z 0 (Int32.ofNat (mxB ((aW A).map (aKey A lk)) (aW A).length))) (0, 0) K L z (Int32.ofNat ks) (Int32.ofNat (mxB ((aW A).map (aKey A lk)) i)) (Int32.ofNat i) (Int32.ofNat (((aW A).take j).countP (fun v => decide (aKey A lk v = aKey A lk ((aW A).getD i 0))))) (Int32.ofNat j) := by
            refine xcount _ (aW A).length ?_ ?_
            · intro j hj G2
              refine g_X9_marks_41 (by decide) ?_
              rw [hW.1, if_pos ((xv_lt (by omega) (by omega)).mpr hj)]
              refine xuse (t_areAlikeM hA hM' hW hi hj hk) (by decide) ?_
              rintro _ _ ⟨⟨v, rfl, hv⟩, rfl⟩
              refine g_X9_marks_60 (by decide) ?_
              rw [cp_snoc hj] at G2
              have ke : aKey A lk ((aW A).getD j 0) = aKey A lk ((aW A).getD i 0) ↔ alW A ks ((aW A).getD i 0) ((aW A).getD j 0) := by
                rw [eq_comm]
                exact key_eq hA (gd_mem hi) (gd_mem hj) (fun s _ => hlk s)
              rw [show Int32.ofNat j + 1 = Int32.ofNat (j + 1) from xv_add j 1]
              by_cases d : aKey A lk ((aW A).getD j 0) = aKey A lk ((aW A).getD i 0)
              · rw [if_pos (decide_eq_true d)] at G2
                rw [if_neg (fun x => hv.mp x (ke.mp d)), show ∀ x, Int32.ofNat x + 1 = Int32.ofNat (x + 1) from fun x => xv_add x 1]
                exact G2
              · rw [if_neg (by rw [decide_eq_false d]; decide)] at G2
                rw [if_pos (hv.mpr (fun x => d (ke.mpr x))), Int32.add_zero]
                exact G2
            · refine g_X9_marks_41 (by decide) ?_
              have ec : (aW A).countP (fun v => decide (aKey A lk v = aKey A lk ((aW A).getD i 0))) = ((aW A).map (aKey A lk)).count (((aW A).map (aKey A lk)).getD i 0) := by
                rw [gd_map hi]
                unfold List.count
                rw [List.countP_map]
                refine List.countP_congr fun v _ => ?_
                simp
              rw [hW.1, if_neg (fun q => Nat.lt_irrefl _ ((xv_lt (by omega) (by omega)).mp q)), List.take_length, ec, show Int32.ofNat i + 1 = Int32.ofNat (i + 1) from xv_add i 1]
              have b1 := mxB_len (kl := (aW A).map (aKey A lk)) i
              have b2 : ((aW A).map (aKey A lk)).count (((aW A).map (aKey A lk)).getD i 0) ≤ ((aW A).map (aKey A lk)).length := List.count_le_length
              rw [List.length_map] at b1 b2
              have es : mxB ((aW A).map (aKey A lk)) (i + 1) = if mxB ((aW A).map (aKey A lk)) i < ((aW A).map (aKey A lk)).count (((aW A).map (aKey A lk)).getD i 0) then ((aW A).map (aKey A lk)).count (((aW A).map (aKey A lk)).getD i 0) else mxB ((aW A).map (aKey A lk)) i := rfl
              by_cases d : mxB ((aW A).map (aKey A lk)) i < ((aW A).map (aKey A lk)).count (((aW A).map (aKey A lk)).getD i 0)
              · rw [if_pos ((xv_lt (by omega) (by omega)).mpr d)]
                rw [es, if_pos d] at G
                exact G
              · rw [if_neg (fun x => d ((xv_lt (by omega) (by omega)).mp x))]
                rw [es, if_neg d] at G
                exact G
          exact key2 0 (Nat.zero_le _)
        · refine g_X9_marks_27 (by decide) ?_
          rw [hW.1, if_neg (fun q => Nat.lt_irrefl _ ((xv_lt (by omega) (by omega)).mp q))]
          exact oM_ok (xsm_mono hK (fun o k e => by unfold scrK at e; unfold scrM; omega))
      exact key 0 (Nat.zero_le _)
  · refine pr_q h 2 0 ?_ ?_
    · refine c_X8_marks (d := 29) (g_X8_marks_0 (by decide) ?_)
      simp only [Int32.lt_iff_toInt_lt, ti_0, ti_15]
      (repeat' split) <;> first | exact oX_no h (by decide) (by decide) | (exfalso; omega)
    · intro J hJ hM
      refine c_X9_marks (d := 29) (g_X9_marks_0 (by decide) ?_)
      rw [if_neg (fun x => e ((m1 J).mp x))]
      exact oM_no (xsm_refl _ _) (by decide) (by decide)
