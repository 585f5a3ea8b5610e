/-! fewest, the class's side -/
def xPt (A : xAb) (nq : Nat) (lab : Nat → Nat → Nat) (mx : Nat) (I : xI) : Prop :=
  I 43 5 = Int32.ofNat nq ∧ I 43 6 = Int32.ofNat mx ∧ (1 ≤ mx ∧ mx ≤ 6) ∧
  (∀ q, q < nq → ∀ l, l < 6 → ∃ y, y < 2 ^ (aP A).length ∧ I 49 (q * 6 + l) = Int32.ofNat y ∧ ∀ i, mS y i ↔ (i < (aP A).length ∧ lab q i = l)) ∧
  (∀ j, nq * 6 ≤ j → j < 144 → I 49 j = 0) ∧
  (∀ q, q < nq → ∃ s, s < 64 ∧ pcn s 6 ≤ mx ∧ ∀ i, i < (aP A).length → lab q i < 6 ∧ s.testBit (lab q i) = true)
def scrQ : Nat → Nat → Prop := fun o k => (o = 43 ∧ 5 ≤ k) ∨ o = 49
theorem t_findPartsAt {A : xAb} {I : xI} {L : xL} {z : Bool × Bool × Nat} {nq mx p : Nat} {lab : Nat → Nat → Nat} {lk : Nat → Nat} (hA : abOK A) (hX : xTX I 10 A) (hs : xShf I) (hP : xPos A I) (h24 : (aP A).length ≤ 24) (hp : p < ab_n A) (hq : nq < 24) (hl : ∀ s, s < 6 → I 48 s = Int32.ofNat (lk s) ∧ lk s < 6) (hI : xPt A nq lab mx I) : xCd 2 30 [.ref 43, .int (Int32.ofNat p)] (xS I L z) (qN scrQ I L z (fun J => ∃ mx', xPt A (nq + 1) (fun q i => if q = nq then lk (wd ((aP A).getD i 0) p) else lab q i) mx' J)) := by
  have h6 := hA.1.2
  have hpl := aP_len hA
  have h24' : 2 ^ (aP A).length ≤ 16777216 := Nat.pow_le_pow_right (show 0 < 2 by decide) h24
  obtain ⟨i1, i2, i3, i4, i5, i6⟩ := hI
  refine c_X1_findPartsAt (g_X1_findPartsAt_0 (by decide) ?_)
  have e0 : I 43 5 * 6 = Int32.ofNat (nq * 6) := by rw [i1]; exact xv_mul nq 6
  rw [e0]
  have key : ∀ i, i ≤ (aP A).length → ∀ (J : xI) (y : Nat → Nat) (s : Nat), xsm (fun o k => o = 49 ∧ nq * 6 ≤ k ∧ k < nq * 6 + 6) I J → (∀ l, l < 6 → y l < 2 ^ (aP A).length ∧ J 49 (nq * 6 + l) = Int32.ofNat (y l) ∧ ∀ j, mS (y l) j ↔ (j < i ∧ lk (wd ((aP A).getD j 0) p) = l)) → s < 64 → (∀ j, j < i → s.testBit (lk (wd ((aP A).getD j 0) p)) = true) → h_X1_findPartsAt_13 1 (qN scrQ I L z (fun J => ∃ mx', xPt A (nq + 1) (fun q i => if q = nq then lk (wd ((aP A).getD i 0) p) else lab q i) mx' J)) (0, 0) J L z (Int32.ofNat p) (Int32.ofNat (nq * 6)) (Int32.ofNat s) (Int32.ofNat i) := by
    refine xcount _ (aP A).length ?_ ?_
    · intro i hi G J y s hJ hy hs64 hsb
      refine g_X1_findPartsAt_13 (by decide) ?_
      have hP' : xPos A J := xPos_sm hJ ⟨by omega, fun k => by omega, fun k => by omega⟩ hP
      have hs' : xShf J := xShf_sm hJ (fun k => by omega) hs
      have hw := (aP_mem.mp (gd_mem hi)).1
      have s6 := aP_wd hA hi (show p < 6 by omega)
      obtain ⟨l1, l2⟩ := hl _ s6
      have j48 : J 48 (wd ((aP A).getD i 0) p) = Int32.ofNat (lk (wd ((aP A).getD i 0) p)) := (hJ _ _ (by omega)).trans l1
      obtain ⟨y1, y2, y3⟩ := hy _ l2
      have ix : nq * 6 + lk (wd ((aP A).getD i 0) p) < 144 := by omega
      rw [f_possible hP' hpl hi, f_sortAt hs' (aW_lt hA hw) (show p < 6 by omega), hP'.1, if_pos ((xv_lt (by omega) (by omega)).mpr hi), if_pos (show Int32.ofNat (wd ((aP A).getD i 0) p) < (6 : Int32) from (xv_lt (b := 6) (by omega) (by decide)).mpr s6), if_pos ((xv_in (by omega)).mpr s6), xv_clamp (by omega), j48, xv_add, if_neg (xv_neg (by omega)), if_pos (show Int32.ofNat (nq * 6 + lk (wd ((aP A).getD i 0) p)) < (144 : Int32) from (xv_lt (b := 144) (by omega) (by decide)).mpr ix), if_pos ((xv_in (by omega)).mpr ix), xv_clamp (by omega), y2]
      have a1 : Int32.ofNat (y (lk (wd ((aP A).getD i 0) p))) ||| ((1 : Int32) <<< (Int32.ofNat i &&& 31)) = Int32.ofNat (y (lk (wd ((aP A).getD i 0) p)) ||| 1 * 2 ^ i) := by simp (disch := omega) only [xl_0, xl_1, xl_2, xl_3, xl_4, xl_5, xl_6, xl_7, xl_8, xl_9, xl_10, xl_15, xl_18, xl_24, xl_31, xl_32, xl_36, xl_40, xl_48, xl_63, xl_64, xl_144, xl_250, xl_320, xl_720, xl_721, xl_1000, xl_1023, xl_1024, xv_lt, xv_eq, xv_in, xv_clamp, xv_add, xv_mul, xv_dec, xv_div, xv_mod, xv_m1, xv_m1', xv_and, xv_or, xv_shl, xv_shr, xv_bit0, xv_bit1]
      rw [a1, xw_ne1 (show (48 : Nat) ≠ 49 by decide), j48]
      have a2 : Int32.ofNat s ||| ((1 : Int32) <<< (Int32.ofNat (lk (wd ((aP A).getD i 0) p)) &&& 31)) = Int32.ofNat (s ||| 1 * 2 ^ lk (wd ((aP A).getD i 0) p)) := by simp (disch := omega) only [xl_0, xl_1, xl_2, xl_3, xl_4, xl_5, xl_6, xl_7, xl_8, xl_9, xl_10, xl_15, xl_18, xl_24, xl_31, xl_32, xl_36, xl_40, xl_48, xl_63, xl_64, xl_144, xl_250, xl_320, xl_720, xl_721, xl_1000, xl_1023, xl_1024, xv_lt, xv_eq, xv_in, xv_clamp, xv_add, xv_mul, xv_dec, xv_div, xv_mod, xv_m1, xv_m1', xv_and, xv_or, xv_shl, xv_shr, xv_bit0, xv_bit1]
      rw [a2, show Int32.ofNat i + 1 = Int32.ofNat (i + 1) from xv_add i 1]
      refine G _ (fun l => if l = lk (wd ((aP A).getD i 0) p) then y l ||| 1 * 2 ^ i else y l) _ (xsm_xw ⟨rfl, by omega, by omega⟩ hJ) (fun l hl6 => ?_) (or_lt64 hs64 l2) (fun j hj => ?_)
      · obtain ⟨z1, z2, z3⟩ := hy l hl6
        (try dsimp only)
        by_cases e : l = lk (wd ((aP A).getD i 0) p)
        · rw [if_pos e]
          refine ⟨tb_lt z1 hi, by rw [e, xw_eq], fun j => ?_⟩
          show (y l ||| 1 * 2 ^ i).testBit j = true ↔ _
          rw [or_bit, Bool.or_eq_true, decide_eq_true_iff]
          constructor
          · rintro (w | w)
            · have := (z3 j).mp w; exact ⟨by omega, this.2⟩
            · subst w; exact ⟨by omega, e.symm⟩
          · rintro ⟨w1, w2⟩
            by_cases d : i = j
            · exact Or.inr d
            · exact Or.inl ((z3 j).mpr ⟨by omega, w2⟩)
        · rw [if_neg e]
          refine ⟨z1, by rw [xw_ne2 (by omega)]; exact z2, fun j => (z3 j).trans ⟨fun w => ⟨by omega, w.2⟩, fun w => ⟨?_, w.2⟩⟩⟩
          by_cases d : j = i
          · rw [d] at w; exact absurd w.2.symm e
          · have := w.1; omega
      · rw [or_bit, Bool.or_eq_true, decide_eq_true_iff]
        by_cases d : j = i
        · rw [d]; exact Or.inr rfl
        · exact Or.inl (hsb j (by omega))
    · intro J y s hJ hy hs64 hsb
      refine g_X1_findPartsAt_13 (by decide) ?_
      have hP' : xPos A J := xPos_sm hJ ⟨by omega, fun k => by omega, fun k => by omega⟩ hP
      have hb := pcn_le s 6
      rw [hP'.1, if_neg (fun q => Nat.lt_irrefl _ ((xv_lt (by omega) (by omega)).mp q)), f_bitCount hs64]
      have j6 : J 43 6 = Int32.ofNat mx := (hJ _ _ (by omega)).trans i2
      have j5 : J 43 5 = Int32.ofNat nq := (hJ _ _ (by omega)).trans i1
      have em : (if J 43 6 < Int32.ofNat (pcn s 6) then Int32.ofNat (pcn s 6) else J 43 6) = Int32.ofNat (max mx (pcn s 6)) := by
        rw [j6]
        by_cases c : mx < pcn s 6
        · rw [if_pos ((xv_lt (by omega) (by omega)).mpr c), Nat.max_eq_right (by omega)]
        · rw [if_neg (fun x => c ((xv_lt (by omega) (by omega)).mp x)), Nat.max_eq_left (by omega)]
      rw [em, xw_ne2 (show (5 : Nat) ≠ 6 by decide), j5, show Int32.ofNat nq + 1 = Int32.ofNat (nq + 1) from xv_add nq 1]
      refine ⟨rfl, _, rfl, xsm_xw (Or.inl ⟨rfl, by decide⟩) (xsm_xw (Or.inl ⟨rfl, by decide⟩) (xsm_mono hJ (fun o k e => Or.inr e.1))), max mx (pcn s 6), ?_, ?_, ?_, ?_, ?_, ?_⟩
      · rw [xw_eq]
      · rw [xw_ne2 (by decide), xw_eq]
      · omega
      · intro q hq' l hl6
        rw [xw_ne1 (by decide), xw_ne1 (by decide)]
        by_cases e : q = nq
        · subst e
          obtain ⟨z1, z2, z3⟩ := hy l hl6
          refine ⟨y l, z1, z2, fun i => ?_⟩
          (try dsimp only)
          rw [if_pos rfl]
          exact z3 i
        · obtain ⟨w, w1, w2, w3⟩ := i4 q (by omega) l hl6
          refine ⟨w, w1, ?_, fun i => ?_⟩
          · rw [hJ _ _ (by omega)]; exact w2
          · (try dsimp only)
            rw [if_neg e]; exact w3 i
      · intro j hj1 hj2
        rw [xw_ne1 (by decide), xw_ne1 (by decide), hJ _ _ (by omega)]
        exact i5 j (by omega) hj2
      · intro q hq'
        by_cases e : q = nq
        · subst e
          refine ⟨s, hs64, by omega, fun i hi => ?_⟩
          (try dsimp only)
          rw [if_pos rfl]
          exact ⟨(hl _ (aP_wd hA hi (by omega))).2, hsb i hi⟩
        · obtain ⟨w, w1, w2, w3⟩ := i6 q (by omega)
          refine ⟨w, w1, by omega, fun i hi => ?_⟩
          (try dsimp only)
          rw [if_neg e]; exact w3 i hi
  exact key 0 (Nat.zero_le _) I (fun _ => 0) 0 (xsm_refl _ _) (fun l hl6 => ⟨Nat.two_pow_pos _, i5 _ (by omega) (by omega), fun j => ⟨fun w => by
    rw [mS, Nat.zero_testBit] at w
    exact absurd w (by decide), fun w => absurd w.1 (Nat.not_lt_zero _)⟩⟩) (by decide) (fun j hj => absurd hj (Nat.not_lt_zero _))
/-- the questions that are asked: each a place and a kind, and each such one -/
def qsOK (A : xAb) (asked nq : Nat) (lab : Nat → Nat → Nat) (Pk : Nat → Nat → Prop) : Prop :=
  (∀ q, q < nq → ∃ p k, p < ab_n A ∧ k < 4 ∧ asked.testBit k = true ∧ ∀ i j, i < (aP A).length → j < (aP A).length → (lab q i = lab q j ↔ aLb A p k i = aLb A p k j)) ∧
  (∀ p k, Pk p k → p < ab_n A → k < 4 → asked.testBit k = true → ∃ q, q < nq ∧ ∀ i j, i < (aP A).length → j < (aP A).length → (lab q i = lab q j ↔ aLb A p k i = aLb A p k j))
def scrQL : Nat → Nat → Prop := fun o k => (o = 43 ∧ 5 ≤ k) ∨ o = 49 ∨ o = 48
theorem alk_one {A : xAb} {k s t : Nat} (hk : k < 4) : alk A (2 ^ k) s t ↔ aNum A k s = aNum A k t := by
  constructor
  · intro h; exact h k hk (by rw [Nat.testBit_two_pow]; exact decide_eq_true rfl)
  · intro h j hj hb
    rw [Nat.testBit_two_pow] at hb
    rw [← of_decide_eq_true hb]; exact h
theorem t_findParts {A : xAb} {I : xI} {L : xL} {z : Bool × Bool × Nat} {ks : Nat} (hA : abOK A) (hX : xTX I 10 A) (hs : xShf I) (hP : xPos A I) (h24 : (aP A).length ≤ 24) (hk : ks < 16) : xCd 4 29 [.ref 43, .int (Int32.ofNat ks)] (xS I L z) (qN scrQL I L z (fun J => ∃ nq lab mx, nq ≤ 24 ∧ xPt A nq lab mx J ∧ qsOK A (if ks.testBit 3 = true then 8 else ks) nq lab (fun _ _ => True))) := by
  have h6 := hA.1.2
  refine c_X1_findParts (g_X1_findParts_0 (by decide) ?_)
  have body : ∀ asked, asked < 16 → xCd 3 302 [.ref 49, .int 0] (xS I L z) (fun r τ => xEX k_X1_findParts 0 (xCd 3) (qN scrQL I L z (fun J => ∃ nq lab mx, nq ≤ 24 ∧ xPt A nq lab mx J ∧ qsOK A asked nq lab (fun _ _ => True))) 24 [some (.ref 43), some (.int (Int32.ofNat ks)), some (.int (Int32.ofNat asked)), none, none] (r.toList ++ []) τ (0, 0)) := by
    intro asked hask
    refine xuse (s_J7_fill (n := 144) rfl rfl rfl rfl (by decide)) (by decide) ?_
    rintro _ _ ⟨rfl, rfl⟩
    refine g_X1_findParts_24 (by decide) ?_
    have hJ0 : xsm scrQL I (xw (xw (xfil I 49 144 (0 : Int32)) 43 5 0) 43 6 1) := xsm_xw (Or.inl ⟨rfl, by decide⟩) (xsm_xw (Or.inl ⟨rfl, by decide⟩) (fun o k h => by
      unfold xfil
      exact if_neg fun q => h (Or.inr (Or.inl q.1))))
    have key : ∀ k, k ≤ 4 → ∀ (J : xI) nq lab mx, xsm scrQL I J → nq ≤ k * ab_n A → xPt A nq lab mx J → qsOK A asked nq lab (fun _ j => j < k) → h_X1_findParts_36 3 (qN scrQL I L z (fun J => ∃ nq lab mx, nq ≤ 24 ∧ xPt A nq lab mx J ∧ qsOK A asked nq lab (fun _ _ => True))) (0, 0) J L z (Int32.ofNat ks) (Int32.ofNat asked) (Int32.ofNat k) := by
      refine xcount _ 4 ?_ ?_
      · intro k hk4 G J nq lab mx hJ hnq hpt hok
        refine g_X1_findParts_36 (by decide) ?_
        rw [if_pos (show Int32.ofNat k < (4 : Int32) from (xv_lt (b := 4) (by omega) (by decide)).mpr hk4), show Int32.ofNat k + 1 = Int32.ofNat (k + 1) from xv_add k 1]
        by_cases bt : asked.testBit k = true
        · rw [if_pos ((cnd_1 (I := J) (by omega) (by omega)).mpr bt)]
          have hX' : xTX J 10 A := xTX_sm hJ (fun k hk => by unfold scrQL; omega) (fun o a b k => by unfold scrQL; omega) hX
          have ek : (1 : Int32) <<< (Int32.ofNat k &&& 31) = Int32.ofNat (2 ^ k) := by
            rw [show (1 : Int32) = Int32.ofNat 1 from rfl, show (31 : Int32) = Int32.ofNat 31 from rfl, xv_and, xv_shl (by omega), Nat.one_mul]
          have k16 : 2 ^ k < 16 := Nat.pow_lt_pow_of_lt (a := 2) (m := 4) (by decide) hk4
          rw [ek]
          refine xuse (t_findLikes hA hX' k16) (by decide) ?_
          rintro _ _ ⟨rfl, J1, rfl, hJ1, lk, hlk⟩
          refine g_X1_findParts_57 (by decide) ?_
          have pt1 : xPt A nq lab mx J1 := by
            obtain ⟨i1, i2, i3, i4, i5, i6⟩ := hpt
            refine ⟨(hJ1 _ _ (by unfold scrL; omega)).trans i1, (hJ1 _ _ (by unfold scrL; omega)).trans i2, i3, fun q hq l hl => ?_, fun j a b => (hJ1 _ _ (by unfold scrL; omega)).trans (i5 j a b), i6⟩
            obtain ⟨y, y1, y2, y3⟩ := i4 q hq l hl
            exact ⟨y, y1, (hJ1 _ _ (by unfold scrL; omega)).trans y2, y3⟩
          have key2 : ∀ p, p ≤ ab_n A → ∀ (J : xI) nq lab mx, xsm scrQL I J → (∀ s, s < 6 → J 48 s = Int32.ofNat (lk s)) → nq ≤ k * ab_n A + p → xPt A nq lab mx J → qsOK A asked nq lab (fun t j => j < k ∨ (j = k ∧ t < p)) → h_X1_findParts_60 3 (qN scrQL I L z (fun J => ∃ nq lab mx, nq ≤ 24 ∧ xPt A nq lab mx J ∧ qsOK A asked nq lab (fun _ _ => True))) (0, 0) J L z (Int32.ofNat ks) (Int32.ofNat asked) (Int32.ofNat k) (Int32.ofNat p) := by
            refine xcount _ (ab_n A) ?_ ?_
            · intro p hp G2 J nq lab mx hJ h48 hnq hpt hok
              refine g_X1_findParts_60 (by decide) ?_
              have hX' : xTX J 10 A := xTX_sm hJ (fun k hk => by unfold scrQL; omega) (fun o a b k => by unfold scrQL; omega) hX
              have hs' : xShf J := xShf_sm hJ (fun k => by unfold scrQL; omega) hs
              have hP' : xPos A J := xPos_sm hJ ⟨by unfold scrQL; omega, fun k => by unfold scrQL; omega, fun k => by unfold scrQL; omega⟩ hP
              have nq24 : nq < 24 := by
                have : k * ab_n A ≤ 3 * 6 := Nat.mul_le_mul (by omega) h6
                omega
              rw [hX'.1.1, if_pos ((xv_lt (by omega) (by omega)).mpr hp)]
              refine xuse (t_findPartsAt (lk := lk) hA hX' hs' hP' h24 hp nq24 (fun s hs6 => ⟨h48 s hs6, Nat.lt_of_le_of_lt (hlk s hs6).2.1 hs6⟩) hpt) (by decide) ?_
              rintro _ _ ⟨rfl, J', rfl, k0, mx', k1⟩
              refine g_X1_findParts_78 (by decide) ?_
              rw [show Int32.ofNat p + 1 = Int32.ofNat (p + 1) from xv_add p 1]
              have leq : ∀ i j, i < (aP A).length → j < (aP A).length → (lk (wd ((aP A).getD i 0) p) = lk (wd ((aP A).getD j 0) p) ↔ aLb A p k i = aLb A p k j) := fun i j hi hj => by
                rw [lk_eq (hlk _ (aP_wd hA hi (by omega))).2 (hlk _ (aP_wd hA hj (by omega))).2, alk_one hk4]; exact Iff.rfl
              refine G2 J' (nq + 1) _ mx' (xsm_trans hJ (xsm_mono k0 (fun o k e => by unfold scrQ at e; unfold scrQL; omega))) (fun s hs6 => (k0 _ _ (by unfold scrQ; omega)).trans (h48 s hs6)) (by omega) k1 ⟨fun q hq => ?_, fun t j htj ht hj hb => ?_⟩
              · by_cases e : q = nq
                · refine ⟨p, k, hp, hk4, bt, fun i j hi hj => ?_⟩
                  (try dsimp only)
                  rw [if_pos e, if_pos e]; exact leq i j hi hj
                · obtain ⟨p', k', a, b, c, d⟩ := hok.1 q (by omega)
                  refine ⟨p', k', a, b, c, fun i j hi hj => ?_⟩
                  (try dsimp only)
                  rw [if_neg e, if_neg e]; exact d i j hi hj
              · by_cases e : j = k ∧ t = p
                · obtain ⟨rfl, rfl⟩ := e
                  refine ⟨nq, Nat.lt_succ_self _, fun i j hi hj => ?_⟩
                  (try dsimp only)
                  rw [if_pos rfl, if_pos rfl]; exact leq i j hi hj
                · obtain ⟨q, q1, q2⟩ := hok.2 t j (by omega) ht hj hb
                  refine ⟨q, by omega, fun i j hi hj => ?_⟩
                  (try dsimp only)
                  rw [if_neg (show ¬ q = nq by omega), if_neg (show ¬ q = nq by omega)]; exact q2 i j hi hj
            · intro J nq lab mx hJ h48 hnq hpt hok
              refine g_X1_findParts_60 (by decide) ?_
              have hX' : xTX J 10 A := xTX_sm hJ (fun k hk => by unfold scrQL; omega) (fun o a b k => by unfold scrQL; omega) hX
              rw [hX'.1.1, if_neg (fun q => Nat.lt_irrefl _ ((xv_lt (by omega) (by omega)).mp q)), show Int32.ofNat k + 1 = Int32.ofNat (k + 1) from xv_add k 1]
              refine G J nq lab mx hJ (by rw [Nat.add_mul, Nat.one_mul]; exact hnq) hpt ⟨hok.1, fun t j htj ht hj hb => hok.2 t j (by omega) ht hj hb⟩
          exact key2 0 (Nat.zero_le _) J1 nq lab mx (xsm_trans hJ (xsm_mono hJ1 (fun o k e => by unfold scrL at e; unfold scrQL; omega))) (fun s hs6 => (hlk s hs6).1) (by omega) pt1 ⟨hok.1, fun t j htj ht hj hb => hok.2 t j (by omega) ht hj hb⟩
        · rw [if_neg (fun x => bt ((cnd_1 (I := J) (by omega) (by omega)).mp x))]
          refine G J nq lab mx hJ (by rw [Nat.add_mul]; omega) hpt ⟨hok.1, fun t j htj ht hj hb => ?_⟩
          by_cases e : j = k
          · rw [e] at hb; exact absurd hb bt
          · exact hok.2 t j (show j < k by omega) ht hj hb
      · intro J nq lab mx hJ hnq hpt hok
        refine g_X1_findParts_36 (by decide) ?_
        rw [if_neg (by decide)]
        exact ⟨rfl, J, rfl, hJ, nq, lab, mx, by omega, hpt, hok.1, fun t j _ ht hj hb => hok.2 t j hj ht hj hb⟩
    refine key 0 (by decide) _ 0 (fun _ _ => 0) 1 hJ0 (Nat.zero_le _) ⟨?_, ?_, ⟨Nat.le_refl _, by decide⟩, fun q hq => absurd hq (Nat.not_lt_zero _), fun j _ hj => ?_, fun q hq => absurd hq (Nat.not_lt_zero _)⟩ ⟨fun q hq => absurd hq (Nat.not_lt_zero _), fun t j h => absurd h (Nat.not_lt_zero _)⟩
    · rw [xw_ne2 (by decide), xw_eq]; rfl
    · rw [xw_eq]; rfl
    · rw [xw_ne1 (by decide), xw_ne1 (by decide)]
      unfold xfil
      rw [if_pos ⟨rfl, hj⟩]
  have c3 : (((Int32.ofNat ks >>> ((3 : Int32) &&& 31)) &&& 1) = 1) ↔ ks.testBit 3 = true := cnd_1 (I := I) (u := ks) (p := 3) (by omega) (by decide)
  by_cases b : ks.testBit 3 = true
  · rw [if_pos (c3.mpr b), if_pos b]
    exact body 8 (by decide)
  · rw [if_neg (fun x => b (c3.mp x)), if_neg b]
    exact body ks hk
