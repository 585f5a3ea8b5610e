/-! the class finds its worlds -/
def xLst (I : xI) (o : Nat) (l : List Nat) : Prop := ∀ i, i < l.length → I o i = Int32.ofNat (l.getD i 0)
/-- two states that agree but for some slots -/
def xsm (S : Nat → Nat → Prop) (I J : xI) : Prop := ∀ o k, ¬ S o k → J o k = I o k
theorem xsm_refl (S : Nat → Nat → Prop) (I : xI) : xsm S I I := fun _ _ _ => rfl
theorem xsm_trans {S : Nat → Nat → Prop} {I J K : xI} (h : xsm S I J) (k : xsm S J K) : xsm S I K := fun o j hs => (k o j hs).trans (h o j hs)
theorem xsm_xw {S : Nat → Nat → Prop} {I J : xI} {o k : Nat} {v : Int32} (ho : S o k) (h : xsm S I J) : xsm S I (xw J o k v) := fun o' k' hs => (xw_ne fun q => hs (by rw [q.1, q.2]; exact ho)).trans (h o' k' hs)
theorem xsm_mono {S T : Nat → Nat → Prop} {I J : xI} (h : xsm S I J) (k : ∀ o j, S o j → T o j) : xsm T I J := fun o j ht => h o j fun hs => ht (k o j hs)
def xShf (I : xI) : Prop := ∀ p, p < 6 → I 2 p = Int32.ofNat (15 - 3 * p)
def xOne (n k : Nat) : Nat → Nat → Prop := fun o j => o = n ∧ j = k
def xAt (n : Nat) : Nat → Nat → Prop := fun o _ => o = n
theorem t_worldIn {I : xI} {L : xL} {z : Bool × Bool × Nat} {a0 n : Nat} {f : Nat → Nat} (ha : xalive (112, bif z.1 then 158 else 112, bif z.2.1 then 204 else 158) a0 = true) (hk : xkind a0 = 20) (hl : xlen z.2.2 a0 = 6) (hs : xShf I) (hn : n ≤ 6) (hf : ∀ p, p < n → I a0 p = Int32.ofNat (f p)) (h8 : ∀ p, p < n → f p < 8) : xCd 1 113 [.ref a0, .int (Int32.ofNat n)] (xS I L z) (fun r τ => r = some (.int (Int32.ofNat (wc f n))) ∧ τ = xS I L z) := by
  have e1 : (xalive (112, bif z.1 then 158 else 112, bif z.2.1 then 204 else 158) a0 && Nat.ble 20 (xkind a0) && !(Nat.beq (xkind a0) 24)) = true := by
    rw [ha, hk]; rfl
  have e3 : xisi (xS I L z) a0 = true := by
    show (xalive _ a0 && (Nat.beq (xkind a0) 20 || Nat.beq (xkind a0) 25)) = true
    rw [hk]
    exact (Bool.and_eq_true _ _).mpr ⟨ha, rfl⟩
  refine c_X7_worldIn (g_X7_worldIn_0 (Nat.zero_le _) ?_)
  have key : ∀ i, i ≤ n → h_X7_worldIn_4 0 (fun r τ => r = some (.int (Int32.ofNat (wc f n))) ∧ τ = xS I L z) (0, 0) I L z a0 (Int32.ofNat n) (Int32.ofNat (wc f i)) (Int32.ofNat i) := by
    refine xcount _ n ?_ ?_
    · intro i hi k
      refine g_X7_worldIn_4 (Nat.zero_le _) ?_
      have h6 : i < 6 := by omega
      simp (disch := omega) only [xl_0, xl_1, xl_2, xl_3, xl_4, xl_5, xl_6, xl_7, xl_8, xl_9, xl_10, xl_15, xl_18, xl_24, xl_31, xl_32, xl_36, xl_40, xl_48, xl_63, xl_64, xl_144, xl_250, xl_320, xl_720, xl_721, xl_1000, xl_1023, xl_1024, xv_lt, xv_eq, xv_in, xv_clamp, xv_add, xv_mul, xv_dec, xv_div, xv_mod, xv_m1, xv_m1', xv_and, xv_or, xv_shl, xv_shr, xv_bit0, xv_bit1, e1, e3, hl, hi, h6, cond_true, if_true, hf i hi, hs i h6]
      rw [wc_or h6 (h8 i hi)]
      exact k
    · refine g_X7_worldIn_4 (Nat.zero_le _) ?_
      simp (disch := omega) only [xl_0, xl_1, xl_2, xl_3, xl_4, xl_5, xl_6, xl_7, xl_8, xl_9, xl_10, xl_15, xl_18, xl_24, xl_31, xl_32, xl_36, xl_40, xl_48, xl_63, xl_64, xl_144, xl_250, xl_320, xl_720, xl_721, xl_1000, xl_1023, xl_1024, xv_lt, xv_eq, xv_in, xv_clamp, xv_add, xv_mul, xv_dec, xv_div, xv_mod, xv_m1, xv_m1', xv_and, xv_or, xv_shl, xv_shr, xv_bit0, xv_bit1, Nat.lt_irrefl, if_false]
      exact ⟨trivial, trivial⟩
  exact key 0 (Nat.zero_le _)
/-- whether a world is in the list -/
theorem t_isWorld {I : xI} {L : xL} {z : Bool × Bool × Nat} {l : List Nat} {w : Nat} (hc : I 37 0 = Int32.ofNat l.length) (hl : xLst I 38 l) (h7 : l.length ≤ 720) (hw : w < 262144) (hb : ∀ v, v ∈ l → v < 262144) : xCd 1 124 [.ref 37, .int (Int32.ofNat w)] (xS I L z) (fun r τ => r = some (.int (if w ∈ l then 1 else 0)) ∧ τ = xS I L z) := by
  refine c_X7_isWorld (g_X7_isWorld_0 (Nat.zero_le _) ?_)
  have key : ∀ i, i ≤ l.length → (∀ j, j < i → l.getD j 0 ≠ w) → h_X7_isWorld_2 0 (fun r τ => r = some (.int (if w ∈ l then 1 else 0)) ∧ τ = xS I L z) (0, 0) I L z (Int32.ofNat w) (Int32.ofNat i) := by
    refine xcount _ l.length ?_ ?_
    · intro i hi k hj
      refine g_X7_isWorld_2 (Nat.zero_le _) ?_
      have h2 : i < 720 := by omega
      have h3 := hb _ (gd_mem hi)
      simp (disch := omega) only [xl_0, xl_1, xl_2, xl_3, xl_4, xl_5, xl_6, xl_7, xl_8, xl_9, xl_10, xl_15, xl_18, xl_24, xl_31, xl_32, xl_36, xl_40, xl_48, xl_63, xl_64, xl_144, xl_250, xl_320, xl_720, xl_721, xl_1000, xl_1023, xl_1024, xv_lt, xv_eq, xv_in, xv_clamp, xv_add, xv_mul, xv_dec, xv_div, xv_mod, xv_m1, xv_m1', xv_and, xv_or, xv_shl, xv_shr, xv_bit0, xv_bit1, hc, hi, h2, if_true, hl i hi]
      by_cases e : l.getD i 0 = w
      · have hm : w ∈ l := by rw [← e]; exact gd_mem hi
        simp only [e, hm, if_true, and_self]
      · rw [if_neg e]
        refine k fun j hj' => ?_
        by_cases q : j = i
        · rw [q]; exact e
        · exact hj j (by omega)
    · intro hj
      refine g_X7_isWorld_2 (Nat.zero_le _) ?_
      have hm : ¬ w ∈ l := fun q => by
        obtain ⟨i, a, b⟩ := mem_gd q
        exact hj i a b
      simp (disch := omega) only [xl_0, xl_1, xl_2, xl_3, xl_4, xl_5, xl_6, xl_7, xl_8, xl_9, xl_10, xl_15, xl_18, xl_24, xl_31, xl_32, xl_36, xl_40, xl_48, xl_63, xl_64, xl_144, xl_250, xl_320, xl_720, xl_721, xl_1000, xl_1023, xl_1024, xv_lt, xv_eq, xv_in, xv_clamp, xv_add, xv_mul, xv_dec, xv_div, xv_mod, xv_m1, xv_m1', xv_and, xv_or, xv_shl, xv_shr, xv_bit0, xv_bit1, hc, Nat.lt_irrefl, if_false, hm, and_self]
  exact key 0 (Nat.zero_le _) (fun j hj => absurd hj (Nat.not_lt_zero _))
theorem t_insertWorld {I : xI} {L : xL} {z : Bool × Bool × Nat} {l : List Nat} {w : Nat} (hc : I 37 0 = Int32.ofNat l.length) (hl : xLst I 38 l) (h7 : l.length < 720) (hw : w < 262144) (hb : ∀ v, v ∈ l → v < 262144) (hs : srt l) (hn : ¬ w ∈ l) : xCd 1 118 [.ref 37, .int (Int32.ofNat w)] (xS I L z) (fun r τ => r = none ∧ ∃ J, τ = xS J L z ∧ xsm (fun o k => (o = 37 ∧ k = 0) ∨ o = 38) I J ∧ J 37 0 = Int32.ofNat (insW w l).length ∧ xLst J 38 (insW w l)) := by
  refine c_X7_insertWorld (g_X7_insertWorld_0 (Nat.zero_le _) ?_)
  simp (disch := omega) only [xl_0, xl_1, xl_2, xl_3, xl_4, xl_5, xl_6, xl_7, xl_8, xl_9, xl_10, xl_15, xl_18, xl_24, xl_31, xl_32, xl_36, xl_40, xl_48, xl_63, xl_64, xl_144, xl_250, xl_320, xl_720, xl_721, xl_1000, xl_1023, xl_1024, xv_lt, xv_eq, xv_in, xv_clamp, xv_add, xv_mul, xv_dec, xv_div, xv_mod, xv_m1, xv_m1', xv_and, xv_or, xv_shl, xv_shr, xv_bit0, xv_bit1, hc, Nat.not_lt_zero, h7, if_true, if_false]
  have key : ∀ i, ∀ J : xI, i ≤ l.length → xsm (fun o k => (o = 37 ∧ k = 0) ∨ o = 38) I J → J 37 0 = Int32.ofNat l.length → (∀ k, k < i → J 38 k = Int32.ofNat (l.getD k 0)) → (∀ k, i < k → k ≤ l.length → J 38 k = Int32.ofNat (l.getD (k - 1) 0)) → (i = l.length ∨ w < l.getD i 0) → h_X7_insertWorld_19 0 (fun r τ => r = none ∧ ∃ J, τ = xS J L z ∧ xsm (fun o k => (o = 37 ∧ k = 0) ∨ o = 38) I J ∧ J 37 0 = Int32.ofNat (insW w l).length ∧ xLst J 38 (insW w l)) (0, 0) J L z (Int32.ofNat w) (Int32.ofNat i) := by
    have fin : ∀ i, ∀ J : xI, i ≤ l.length → xsm (fun o k => (o = 37 ∧ k = 0) ∨ o = 38) I J → J 37 0 = Int32.ofNat l.length → (∀ k, k < i → J 38 k = Int32.ofNat (l.getD k 0)) → (∀ k, i < k → k ≤ l.length → J 38 k = Int32.ofNat (l.getD (k - 1) 0)) → (i = l.length ∨ w < l.getD i 0) → (∀ j, j < i → l.getD j 0 < w) → xsm (fun o k => (o = 37 ∧ k = 0) ∨ o = 38) I (xw (xw J 38 i (Int32.ofNat w)) 37 0 (Int32.ofNat (l.length + 1))) ∧ (xw (xw J 38 i (Int32.ofNat w)) 37 0 (Int32.ofNat (l.length + 1))) 37 0 = Int32.ofNat (insW w l).length ∧ xLst (xw (xw J 38 i (Int32.ofNat w)) 37 0 (Int32.ofNat (l.length + 1))) 38 (insW w l) := by
      intro i J hi hJ j0 j1 j2 j3 j4
      rw [insW_at hi j4 j3]
      have hlen : (l.take i ++ w :: l.drop i).length = l.length + 1 := by
        rw [List.length_append, List.length_cons, List.length_take, List.length_drop]; omega
      refine ⟨xsm_xw (Or.inl ⟨rfl, rfl⟩) (xsm_xw (Or.inr rfl) hJ), ?_, ?_⟩
      · rw [xw_eq, hlen]
      · intro k hk
        rw [hlen] at hk
        rw [gd_ins k hi, xw_ne1 (by decide)]
        by_cases e1 : k < i
        · rw [if_pos e1, xw_ne2 (by omega)]; exact j1 k e1
        · rw [if_neg e1]
          by_cases e2 : k = i
          · rw [if_pos e2, e2, xw_eq]
          · rw [if_neg e2, xw_ne2 e2]; exact j2 k (by omega) (by omega)
    intro i
    induction i with
    | zero =>
      intro J hi hJ j0 j1 j2 j3
      refine g_X7_insertWorld_19 (Nat.zero_le _) ?_
      have f := fin 0 J hi hJ j0 j1 j2 j3 (fun j hj => absurd hj (Nat.not_lt_zero _))
      simp (disch := omega) only [xl_0, xl_1, xl_2, xl_3, xl_4, xl_5, xl_6, xl_7, xl_8, xl_9, xl_10, xl_15, xl_18, xl_24, xl_31, xl_32, xl_36, xl_40, xl_48, xl_63, xl_64, xl_144, xl_250, xl_320, xl_720, xl_721, xl_1000, xl_1023, xl_1024, xv_lt, xv_eq, xv_in, xv_clamp, xv_add, xv_mul, xv_dec, xv_div, xv_mod, xv_m1, xv_m1', xv_and, xv_or, xv_shl, xv_shr, xv_bit0, xv_bit1, Nat.lt_irrefl, if_false, Nat.reduceLT, if_true]
      rw [xw_ne1 (show (37 : Nat) ≠ 38 by decide), j0, xv_add]
      exact ⟨trivial, _, rfl, f⟩
    | succ i ih =>
      intro J hi hJ j0 j1 j2 j3
      refine g_X7_insertWorld_19 (Nat.zero_le _) ?_
      have h1 : i < 720 := by omega
      have h2 : i + 1 < 720 := by omega
      have h3 := hb _ (gd_mem (show i < l.length by omega))
      simp (disch := omega) only [xl_0, xl_1, xl_2, xl_3, xl_4, xl_5, xl_6, xl_7, xl_8, xl_9, xl_10, xl_15, xl_18, xl_24, xl_31, xl_32, xl_36, xl_40, xl_48, xl_63, xl_64, xl_144, xl_250, xl_320, xl_720, xl_721, xl_1000, xl_1023, xl_1024, xv_lt, xv_eq, xv_in, xv_clamp, xv_add, xv_mul, xv_dec, xv_div, xv_mod, xv_m1, xv_m1', xv_and, xv_or, xv_shl, xv_shr, xv_bit0, xv_bit1, xv_sub, Nat.zero_lt_succ, Nat.add_sub_cancel, h1, h2, if_true, j1 i (Nat.lt_succ_self i)]
      by_cases e : w < l.getD i 0
      · rw [if_pos e]
        refine ih _ (by omega) (xsm_xw (Or.inr rfl) hJ) (by rw [xw_ne1 (by decide)]; exact j0) ?_ ?_ (Or.inr e)
        · intro k hk; rw [xw_ne2 (by omega)]; exact j1 k (by omega)
        · intro k hk hk2
          by_cases q : k = i + 1
          · subst q; rw [xw_eq]; rfl
          · rw [xw_ne2 q]; exact j2 k (by omega) hk2
      · rw [if_neg e]
        have ne : l.getD i 0 ≠ w := fun q => hn (by rw [← q]; exact gd_mem (by omega))
        have f := fin (i + 1) J hi hJ j0 j1 j2 j3 (fun j hj => by
          by_cases q : j = i
          · rw [q]; omega
          · have := srt_gd hs (show j < i by omega) (by omega)
            omega)
        rw [xw_ne1 (show (37 : Nat) ≠ 38 by decide), j0, xv_add]
        exact ⟨trivial, _, rfl, f⟩
  exact key l.length I (Nat.le_refl _) (xsm_refl _ _) hc (fun k hk => hl k hk) (fun k a b => by omega) (Or.inl rfl)
