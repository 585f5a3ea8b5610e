/-! promise stair -/
theorem qSM_b {n : Nat} {T : Nat → Nat} {R : pR} {J J' : xI} {L : xL} {z : Bool × Bool × Nat} {r : Option Value} {τ : xH} (hJ : xsm sSM J J') (h : qSM n T R J' L z r τ) : ∃ v K M, r = some (.int v) ∧ τ = xS K M z ∧ xbool v = true ∧ qSM n T R J L z (some (.int v)) (xS K M z) := by
  obtain ⟨K, M, rfl, hK, hM, h⟩ := h
  cases R with
  | error f => obtain ⟨rfl, h⟩ := h; exact ⟨0, K, M, rfl, rfl, rfl, K, M, rfl, xsm_trans hJ hK, hM, rfl, h⟩
  | ok p => obtain ⟨rfl, h⟩ := h; exact ⟨1, K, M, rfl, rfl, rfl, K, M, rfl, xsm_trans hJ hK, hM, rfl, h⟩
theorem pSort1_3 {T : Nat → Nat} {n s e : Nat} {A : xAb} : pSort1 T n s 3 A e = if nOk T n e 0 9 = true then (if nOk T n (tE T n e) 0 9 = true then (if nOk T n (tE T n (tE T n e)) 0 9 = true then .ok (ab_sortTo (ab_sortTo (ab_sortTo A s 0 (tV T n e)) s 1 (tV T n (tE T n e))) s 2 (tV T n (tE T n (tE T n e))), tE T n (tE T n (tE T n e))) else .error (tS T n (tE T n (tE T n e)))) else .error (tS T n (tE T n e))) else .error (tS T n e) := rfl
theorem xis_mark2 {I : xI} {L : xL} {z : Bool × Bool × Nat} {s : Nat} (hs : s < 6) : (xis (xS I L z) (85 + 1 + s) 20 && Nat.blt 8 (85 + 1 + s)) = true ∧ xlen z.2.2 (85 + 1 + s) = 4 := by
  have hs : s = 0 ∨ s = 1 ∨ s = 2 ∨ s = 3 ∨ s = 4 ∨ s = 5 := by omega
  rcases hs with rfl | rfl | rfl | rfl | rfl | rfl <;> exact ⟨rfl, rfl⟩
theorem mk_step {K : xI} {L : xL} {z : Bool × Bool × Nat} {F : xQ} {s k v : Nat} (hk : k < 3) (hs : s < 6) (h0 : K 103 0 = Int32.ofNat s) (hv : K 103 (k + 1) = Int32.ofNat v) (hh : h_X9_statement_143 15 F (0, 0) (xw K (66 + 20 + s) k (Int32.ofNat v)) L z (Int32.ofNat (k + 1))) : h_X9_statement_143 15 F (0, 0) K L z (Int32.ofNat k) := by
  refine g_X9_statement_143 (by decide) ?_
  have q := xis_mark2 (I := K) (L := L) (z := z) hs
  rw [if_pos (show Int32.ofNat k < (3 : Int32) from (xv_lt (b := 3) (by omega) (by decide)).mpr hk), show Int32.toNatClampNeg 0 = 0 from rfl, h0, if_pos ((xv_in (by omega)).mpr hs), show Int32.ofNat k + 1 = Int32.ofNat (k + 1) from xv_add k 1, if_pos ((xv_in (by omega)).mpr (by omega)), xv_clamp (show s < 2147483648 by omega)]
  refine xbifT q.1 ?_
  rw [q.2, if_pos ((xv_in (by omega)).mpr (by omega)), xv_clamp (show k < 2147483648 by omega), xv_clamp (show k + 1 < 2147483648 by omega), hv, show 85 + 1 + s = 66 + 20 + s from by omega]
  exact hh
theorem t_stM {n a : Nat} {T : Nat → Nat} {A : xAb} {J : xI} {L : xL} {z : Bool × Bool × Nat} (h : xStM n T A J) (hc : xCur n T a J) (an : a ≤ n) : xCd 16 231 [.ref 66] (xS J L z) (qSM n T (pStm T n A a) J L z) := by
  refine c_X9_statement (d := 15) (g_X9_statement_0 (by decide) ?_)
  have te := tE_le (T := T) an
  have t1 := tE_le (T := T) te.2.1
  have t2 := tE_le (T := T) t1.2.1
  have t3 := tE_le (T := T) t2.2.1
  have hA := h.2.1
  have h6 := hA.1.2
  have h2 := hA.1.1
  have hn : J 66 9 = Int32.ofNat (ab_n A) := h.2.2.1.1
  have tok : ∀ w : Nat, w < 9 → 3 ≤ w → xCd 15 226 [.ref 66, .ref w] (xS J L z) (qP J L z (if isWd T n a (xtext w) = true then 1 else 0)) := by
    intro w hw h3
    have hw' : w = 3 ∨ w = 4 ∨ w = 5 ∨ w = 6 ∨ w = 7 ∨ w = 8 := by omega
    refine xupD (t_isWord h.1 hc an ?_ ?_ (xtext_v w hw)) (by decide)
    · rcases hw' with rfl | rfl | rfl | rfl | rfl | rfl <;> rfl
    · obtain ⟨q3, q4, q5, q6, q7, q8⟩ := xtext_b
      rcases hw' with rfl | rfl | rfl | rfl | rfl | rfl <;> omega
  have c0 : Int32.toNatClampNeg 0 = 0 := rfl
  have c1 : Int32.toNatClampNeg 1 = 1 := rfl
  have c2 : Int32.toNatClampNeg 2 = 2 := rfl
  unfold pStm
  refine xuse (tok 3 (by decide) (by decide)) (Nat.le_refl _) ?_
  rintro _ _ ⟨rfl, rfl⟩
  refine g_X9_statement_6 (by decide) ?_
  by_cases w3 : isWd T n a (xtext 3) = true
  · simp only [if_pos w3]
    rw [if_neg (by decide)]
    refine xuse (t_tellsM (lo := 2) (hi := 6) h.1 hc.1 te.2.1 (by decide) (by decide)) (by decide) ?_
    unfold pCups
    rintro _ _ ⟨J1, hJ1, K, rfl, hK, ⟨ok, rfl, k0, _, kc⟩ | ⟨ok, rfl, k1⟩⟩
    · refine g_X9_statement_16 (by decide) ?_
      have v := nOk_iff.mp ok
      have hJK := xsm_trans hJ1 hK
      have hK' := xStM_nm hJK h
      rw [if_pos ok, if_neg (by decide), c0, k0]
      refine xuse (t_becomeCups (n := tV T n (tE T n a))) (by decide) ?_
      rintro _ _ ⟨rfl, N, rfl, g2, k9, kf, nk⟩
      refine g_X9_statement_31 (by decide) (xbifT rfl ?_)
      refine qSM_ok (xsm_trans (xsm_mono hJK sNM_SM) (xsm_mono g2 (fun o k e => by unfold sSM; omega))) (fun _ _ => rfl) h.1 (abOK_lay hA (by omega) (fun _ _ => by decide) (fun _ _ => by decide) (fun _ _ _ => ⟨rfl, rfl⟩)) ?_ (xCur_sm g2 (fun k a b => by omega) kc)
      exact xTM_lay hK'.2.2 k9 (g2 66 _ (by omega)) (g2 66 _ (by omega)) (g2 66 _ (by omega)) (fun k hk => (kf k hk).1) (fun k hk => (kf k (by omega)).2) nk (fun o ho k => g2 o k (by omega))
    · refine g_X9_statement_16 (by decide) ?_
      rw [if_pos rfl, if_neg (by rw [ok]; decide)]
      exact g_X9_statement_31 (by decide) (xbifT rfl (qSM_no (xsm_mono (xsm_trans hJ1 hK) sNM_SM) (fun _ _ => rfl) k1))
  simp only [if_neg w3, if_true]
  refine xuse (tok 4 (by decide) (by decide)) (Nat.le_refl _) ?_
  rintro _ _ ⟨rfl, rfl⟩
  refine g_X9_statement_39 (by decide) ?_
  by_cases w4 : isWd T n a (xtext 4) = true
  · simp only [if_pos w4]
    rw [if_neg (by decide)]
    refine xuse (t_pourTM h hc.1 te.2.1) (by decide) ?_
    intro r τ q
    obtain ⟨v, P, M, rfl, rfl, bv, q⟩ := qSM_b (xsm_refl _ _) q
    exact g_X9_statement_46 (by decide) (xbifT bv q)
  simp only [if_neg w4, if_true]
  refine xuse (tok 5 (by decide) (by decide)) (Nat.le_refl _) ?_
  rintro _ _ ⟨rfl, rfl⟩
  refine g_X9_statement_54 (by decide) ?_
  by_cases w5 : isWd T n a (xtext 5) = true
  · simp only [if_pos w5]
    rw [if_neg (by decide)]
    refine xuse (t_tellsM (lo := 0) (hi := 2) h.1 hc.1 te.2.1 (by decide) (by decide)) (by decide) ?_
    unfold pLaw
    rintro _ _ ⟨J1, hJ1, K, rfl, hK, ⟨ok, rfl, k0, _, kc⟩ | ⟨ok, rfl, k1⟩⟩
    · refine g_X9_statement_63 (by decide) ?_
      have v := nOk_iff.mp ok
      have hJK := xsm_trans hJ1 hK
      have hK' := xStM_nm hJK h
      rw [if_pos ok, if_neg (by decide), c0, k0]
      refine xbifT rfl ?_
      have hQ : xsm (fun o k => o = 66 ∧ k = 10) K (xw K 66 10 (Int32.ofNat (tV T n (tE T n a)))) := xsm_xw ⟨rfl, rfl⟩ (xsm_refl _ _)
      exact qSM_ok (xsm_trans (xsm_mono hJK sNM_SM) (xsm_mono hQ (fun o k e => by unfold sSM; omega))) (fun _ _ => rfl) h.1 ⟨hA.1, v.2.2, hA.2.2⟩ (xTM_law hK'.2.2) (xCur_sm hQ (fun k a b => by omega) kc)
    · refine g_X9_statement_63 (by decide) ?_
      rw [if_pos rfl, if_neg (by rw [ok]; decide)]
      exact xbifT rfl (qSM_no (xsm_xw (by unfold sSM; omega) (xsm_mono (xsm_trans hJ1 hK) sNM_SM)) (fun _ _ => rfl) (by rw [xw_ne2 (by decide)]; exact k1))
  simp only [if_neg w5, if_true]
  refine xuse (tok 6 (by decide) (by decide)) (Nat.le_refl _) ?_
  rintro _ _ ⟨rfl, rfl⟩
  refine g_X9_statement_94 (by decide) ?_
  by_cases w6 : isWd T n a (xtext 6) = true
  · simp only [if_pos w6]
    rw [if_neg (by decide)]
    refine xuse (t_tellsM (lo := 0) (hi := 5) h.1 hc.1 te.2.1 (by decide) (by decide)) (by decide) ?_
    unfold pSort
    rw [pSort1_3]
    rintro _ _ ⟨J1, hJ1, K, rfl, hK, ⟨ok, rfl, k0, _, kc⟩ | ⟨ok, rfl, k1⟩⟩
    · refine g_X9_statement_103 (by decide) ?_
      have v := nOk_iff.mp ok
      have hJK := xsm_trans hJ1 hK
      have hK' := xStM_nm hJK h
      rw [if_pos ok, if_neg (by decide)]
      refine xuse (t_numM (i := 1) (lo := 0) (hi := 9) hK'.1 kc t1.2.1 (by decide) (by decide) (by decide)) (by decide) ?_
      rintro _ _ ⟨K2, rfl, hK2, ⟨ok2, rfl, m1, mo, mc⟩ | ⟨ok2, rfl, m27⟩⟩
      · refine g_X9_statement_114 (by decide) ?_
        have v2 := nOk_iff.mp ok2
        have hK2' := xStM_nm hK2 hK'
        rw [if_pos ok2, if_neg (by decide)]
        refine xuse (t_numM (i := 2) (lo := 0) (hi := 9) hK2'.1 mc t2.2.1 (by decide) (by decide) (by decide)) (by decide) ?_
        rintro _ _ ⟨K3, rfl, hK3, ⟨ok3, rfl, p1, po, pc⟩ | ⟨ok3, rfl, p27⟩⟩
        · refine g_X9_statement_125 (by decide) ?_
          have v3 := nOk_iff.mp ok3
          have hK3' := xStM_nm hK3 hK2'
          rw [if_pos ok3, if_neg (by decide)]
          refine xuse (t_numM (i := 3) (lo := 0) (hi := 9) hK3'.1 pc t3.2.1 (by decide) (by decide) (by decide)) (by decide) ?_
          rintro _ _ ⟨K4, rfl, hK4, ⟨ok4, rfl, r1, ro, rc⟩ | ⟨ok4, rfl, r27⟩⟩
          · refine g_X9_statement_136 (by decide) ?_
            have v4 := nOk_iff.mp ok4
            have hK4' := xStM_nm hK4 hK3'
            rw [if_pos ok4, if_neg (by decide)]
            have e0 : K4 103 0 = Int32.ofNat (tV T n (tE T n a)) := (ro 0 (by decide)).trans ((po 0 (by decide)).trans ((mo 0 (by decide)).trans k0))
            have e1 : K4 103 1 = Int32.ofNat (tV T n (tE T n (tE T n a))) := (ro 1 (by decide)).trans ((po 1 (by decide)).trans m1)
            have e2 : K4 103 2 = Int32.ofNat (tV T n (tE T n (tE T n (tE T n a)))) := (ro 2 (by decide)).trans p1
            refine mk_step (k := 0) (s := tV T n (tE T n a)) (by decide) (by omega) e0 e1 ?_
            refine mk_step (k := 1) (s := tV T n (tE T n a)) (v := tV T n (tE T n (tE T n (tE T n a)))) (by decide) (by omega) (by rw [xw_ne1 (by omega)]; exact e0) (by rw [xw_ne1 (by omega)]; exact e2) ?_
            refine mk_step (k := 2) (s := tV T n (tE T n a)) (v := tV T n (tE T n (tE T n (tE T n (tE T n a))))) (by decide) (by omega) (by rw [xw_ne1 (by omega), xw_ne1 (by omega)]; exact e0) (by rw [xw_ne1 (by omega), xw_ne1 (by omega)]; exact r1) ?_
            refine g_X9_statement_143 (by decide) ?_
            rw [if_neg (by decide)]
            have hs6 : tV T n (tE T n a) < 6 := by omega
            have hQ : xsm (fun o k => 86 ≤ o ∧ o ≤ 91) K4 (xw (xw (xw K4 (66 + 20 + tV T n (tE T n a)) 0 (Int32.ofNat (tV T n (tE T n (tE T n a))))) (66 + 20 + tV T n (tE T n a)) 1 (Int32.ofNat (tV T n (tE T n (tE T n (tE T n a)))))) (66 + 20 + tV T n (tE T n a)) 2 (Int32.ofNat (tV T n (tE T n (tE T n (tE T n (tE T n a))))))) := xsm_xw (by omega) (xsm_xw (by omega) (xsm_xw (by omega) (xsm_refl _ _)))
            refine qSM_ok (xsm_trans (xsm_mono (xsm_trans hJK (xsm_trans hK2 (xsm_trans hK3 hK4))) sNM_SM) (xsm_mono hQ (fun o k e => by unfold sSM; omega))) (fun _ _ => rfl) h.1 (abOK_sort (abOK_sort (abOK_sort hA (by omega)) (by omega)) (by omega)) (xTM_sort hs6 (by decide) (xTM_sort hs6 (by decide) (xTM_sort hs6 (by decide) hK4'.2.2))) (xCur_sm hQ (fun k a b => by omega) rc)
          · refine g_X9_statement_136 (by decide) ?_
            rw [if_pos rfl, if_neg (by rw [ok4]; decide)]
            exact qSM_no (xsm_mono (xsm_trans hJK (xsm_trans hK2 (xsm_trans hK3 hK4))) sNM_SM) (fun _ _ => rfl) r27
        · refine g_X9_statement_125 (by decide) ?_
          rw [if_pos rfl, if_neg (by rw [ok3]; decide)]
          exact qSM_no (xsm_mono (xsm_trans hJK (xsm_trans hK2 hK3)) sNM_SM) (fun _ _ => rfl) p27
      · refine g_X9_statement_114 (by decide) ?_
        rw [if_pos rfl, if_neg (by rw [ok2]; decide)]
        exact qSM_no (xsm_mono (xsm_trans hJK hK2) sNM_SM) (fun _ _ => rfl) m27
    · refine g_X9_statement_103 (by decide) ?_
      rw [if_pos rfl, if_neg (by rw [ok]; decide)]
      exact qSM_no (xsm_mono (xsm_trans hJ1 hK) sNM_SM) (fun _ _ => rfl) k1
  simp only [if_neg w6, if_true]
  refine xuse (tok 7 (by decide) (by decide)) (Nat.le_refl _) ?_
  rintro _ _ ⟨rfl, rfl⟩
  refine g_X9_statement_184 (by decide) ?_
  by_cases w7 : isWd T n a (xtext 7) = true
  · simp only [if_pos w7]
    rw [if_neg (by decide), hn, show Int32.ofNat (ab_n A) - 1 = Int32.ofNat (ab_n A - 1) from xv_sub (b := 1) (by omega)]
    refine xuse (t_tellsM (lo := 0) (hi := ab_n A - 1) h.1 hc.1 te.2.1 (by decide) (by omega)) (by decide) ?_
    unfold pGuest
    rintro _ _ ⟨J1, hJ1, K, rfl, hK, ⟨ok, rfl, k0, _, kc⟩ | ⟨ok, rfl, k1⟩⟩
    · refine g_X9_statement_198 (by decide) ?_
      have v := nOk_iff.mp ok
      have hJK := xsm_trans hJ1 hK
      have hK' := xStM_nm hJK h
      rw [if_pos ok, if_neg (by decide)]
      refine xuse (t_numM (i := 1) (lo := 0) (hi := 5) hK'.1 kc t1.2.1 (by decide) (by decide) (by decide)) (by decide) ?_
      rintro _ _ ⟨K2, rfl, hK2, ⟨ok2, rfl, m1, mo, mc⟩ | ⟨ok2, rfl, m27⟩⟩
      · refine g_X9_statement_208 (by decide) ?_
        have v2 := nOk_iff.mp ok2
        have hK2' := xStM_nm hK2 hK'
        rw [if_pos ok2, if_neg (by decide)]
        refine xuse (t_numM (i := 2) (lo := 0) (hi := 9) hK2'.1 mc t2.2.1 (by decide) (by decide) (by decide)) (by decide) ?_
        rintro _ _ ⟨K3, rfl, hK3, ⟨ok3, rfl, p1, po, pc⟩ | ⟨ok3, rfl, p27⟩⟩
        · refine g_X9_statement_219 (by decide) ?_
          have v3 := nOk_iff.mp ok3
          have hK3' := xStM_nm hK3 hK2'
          rw [if_pos ok3, if_neg (by decide)]
          have e0 : K3 103 0 = Int32.ofNat (tV T n (tE T n a)) := (po 0 (by decide)).trans ((mo 0 (by decide)).trans k0)
          have e1 : K3 103 1 = Int32.ofNat (tV T n (tE T n (tE T n a))) := (po 1 (by decide)).trans m1
          rw [c0, c1, c2, xw_ne1 (o := 92) (o' := 103) (by decide), xw_ne1 (o := 92) (o' := 103) (by decide), e0, e1, p1, if_pos ((xv_in (by omega)).mpr (by omega)), if_pos ((xv_in (by omega)).mpr (by omega)), xv_clamp (by omega)]
          have hQ : xsm (fun o k => o = 92 ∨ o = 93) K3 (xw (xw K3 92 (tV T n (tE T n a)) (Int32.ofNat (tV T n (tE T n (tE T n a))))) 93 (tV T n (tE T n a)) (Int32.ofNat (tV T n (tE T n (tE T n (tE T n a)))))) := xsm_xw (Or.inr rfl) (xsm_xw (Or.inl rfl) (xsm_refl _ _))
          refine qSM_ok (xsm_trans (xsm_mono (xsm_trans hJK (xsm_trans hK2 hK3)) sNM_SM) (xsm_mono hQ (fun o k e => by unfold sSM; omega))) (fun _ _ => rfl) h.1 (abOK_guest hA (by omega) (by omega)) (xTM_guest (t := 66) hK3'.2.2) (xCur_sm hQ (fun k a b => by omega) pc)
        · refine g_X9_statement_219 (by decide) ?_
          rw [if_pos rfl, if_neg (by rw [ok3]; decide)]
          exact qSM_no (xsm_mono (xsm_trans hJK (xsm_trans hK2 hK3)) sNM_SM) (fun _ _ => rfl) p27
      · refine g_X9_statement_208 (by decide) ?_
        rw [if_pos rfl, if_neg (by rw [ok2]; decide)]
        exact qSM_no (xsm_mono (xsm_trans hJK hK2) sNM_SM) (fun _ _ => rfl) m27
    · refine g_X9_statement_198 (by decide) ?_
      rw [if_pos rfl, if_neg (by rw [ok]; decide)]
      exact qSM_no (xsm_mono (xsm_trans hJ1 hK) sNM_SM) (fun _ _ => rfl) k1
  simp only [if_neg w7, if_true]
  refine xuse (tok 8 (by decide) (by decide)) (Nat.le_refl _) ?_
  rintro _ _ ⟨rfl, rfl⟩
  refine g_X9_statement_267 (by decide) ?_
  by_cases w8 : isWd T n a (xtext 8) = true
  · simp only [if_pos w8]
    rw [if_neg (by decide)]
    refine xuse (t_signTM h hc.1 te.2.1) (by decide) ?_
    intro r τ q
    obtain ⟨v, P, M, rfl, rfl, bv, q⟩ := qSM_b (xsm_refl _ _) q
    exact g_X9_statement_274 (by decide) (xbifT bv q)
  simp only [if_neg w8, if_true]
  refine xbifT (show xbool 0 = true from rfl) ?_
  exact qSM_no (xsm_xw (by unfold sSM; omega) (xsm_refl _ _)) (fun _ _ => rfl) (by rw [xw_eq]; exact hc.2.2.1)
/-- all statements, the reference -/
def sAM : Nat → Nat → Prop := fun o k => sSM o k ∨ (o = 66 ∧ k = 30)
def qAM (n : Nat) (T : Nat → Nat) (R : Except Nat (xAb × Nat)) (J : xI) (L : xL) (z : Bool × Bool × Nat) : xQ := fun r τ => ∃ K M, τ = xS K M z ∧ xsm sAM J K ∧ (∀ o, o ≠ 104 → M o = L o) ∧ match R with
  | .ok (B, c) => r = some (.int 1) ∧ xStM n T B K ∧ K 66 30 = Int32.ofNat c
  | .error f => r = some (.int 0) ∧ K 66 27 = Int32.ofNat f
def pTail (T : Nat → Nat) (n m c : Nat) (B : xAb) (e : Nat) : Except Nat (xAb × Nat) := if tK T n e = 0 then .ok (B, c) else if tK T n e = 3 then pAll T n m (c + 1) B (tE T n e) else .error (tS T n e)
theorem t_allM {n : Nat} {T : Nat → Nat} {A : xAb} {J : xI} {L : xL} {z : Bool × Bool × Nat} (h : xStM n T A J) : xCd 18 232 [.ref 66] (xS J L z) (qAM n T (pAll T n 250 1 A 0) J L z) := by
  refine c_X9_readAll (d := 17) (g_X9_readAll_0 (by decide) ?_)
  have n250 := h.1.1
  have lkA : ∀ o k, sLk o k → sAM o k := fun o k e => by unfold sLk at e; unfold sAM sSM; omega
  have lkN : ∀ o k, sLk o k → sNM o k := fun o k e => by unfold sLk at e; unfold sNM; omega
  have SMA : ∀ o k, sSM o k → sAM o k := fun o k e => Or.inl e
  have key : ∀ (R : Except Nat (xAb × Nat)) m c (B : xAb) e (K : xI) (M : xL), n ≤ e + 2 * m → xsm sAM J K → (∀ o, o ≠ 104 → M o = L o) → xStM n T B K → xCur n T e K → K 66 30 = Int32.ofNat c → e ≤ n → pTail T n m c B e = R → h_X9_readAll_23 17 (qAM n T R J L z) (0, 0) K M z := by
    intro R m
    induction m with
    | zero =>
      intro c B e K M hm hK hM hB kc k30 en hR
      refine g_X9_readAll_23 (by decide) ?_
      unfold pTail at hR
      have tk := tK_lt T n e
      have te := tE_le (T := T) en
      have ts := tS_le (T := T) en
      rw [kc.2.1]
      by_cases d0 : tK T n e = 0
      · rw [if_pos (show Int32.ofNat (tK T n e) = 0 from by rw [d0]; rfl)]
        rw [if_pos d0] at hR
        subst hR
        exact ⟨K, M, rfl, hK, hM, rfl, hB, k30⟩
      · have := te.2.2 d0
        omega
    | succ m ih =>
      intro c B e K M hm hK hM hB kc k30 en hR
      refine g_X9_readAll_23 (by decide) ?_
      unfold pTail at hR
      have tk := tK_lt T n e
      have te := tE_le (T := T) en
      have ts := tS_le (T := T) en
      rw [kc.2.1]
      by_cases d0 : tK T n e = 0
      · rw [if_pos (show Int32.ofNat (tK T n e) = 0 from by rw [d0]; rfl)]
        rw [if_pos d0] at hR
        subst hR
        exact ⟨K, M, rfl, hK, hM, rfl, hB, k30⟩
      · rw [if_neg (show ¬ Int32.ofNat (tK T n e) = (0 : Int32) from fun x => d0 ((xv_eq (b := 0) (by omega) (by decide)).mp x))]
        rw [if_neg d0] at hR
        have tp := te.2.2 d0
        by_cases d3 : tK T n e = 3
        · rw [if_pos (show Int32.ofNat (tK T n e) = 3 from by rw [d3]; rfl)]
          rw [if_pos d3] at hR
          refine xuse (t_look hB.1 kc.1 te.2.1) (by decide) ?_
          rintro _ _ ⟨rfl, K1, rfl, hK1, c1⟩
          refine g_X9_readAll_47 (by decide) ?_
          refine xuse (t_stM (xStM_nm (xsm_mono hK1 lkN) hB) c1 te.2.1) (by decide) ?_
          have hJ1 : xsm sAM J K1 := xsm_trans hK (xsm_mono hK1 lkA)
          have k30 : K1 66 30 = Int32.ofNat c := (hK1 66 30 (by unfold sLk; omega)).trans k30
          unfold pAll at hR
          cases g : pStm T n B (tE T n e) with
          | error f =>
            rw [g] at hR
            rintro r τ ⟨K2, M2, rfl, hK2, hM2, rfl, k27⟩
            refine g_X9_readAll_51 (by decide) ?_
            rw [if_pos rfl]
            subst hR
            exact ⟨K2, M2, rfl, xsm_trans hJ1 (xsm_mono hK2 SMA), fun o ho => (hM2 o ho).trans (hM o ho), rfl, k27⟩
          | ok p =>
            obtain ⟨C, e2⟩ := p
            rw [g] at hR
            have q := pStm_e te.2.1 g
            rintro r τ ⟨K2, M2, rfl, hK2, hM2, rfl, hC, cc⟩
            refine g_X9_readAll_51 (by decide) ?_
            have k30 : K2 66 30 = Int32.ofNat c := (hK2 66 30 (by unfold sSM; omega)).trans k30
            rw [if_neg (by decide), k30, show Int32.ofNat c + 1 = Int32.ofNat (c + 1) from xv_add c 1]
            have hQ : xsm (fun o k => o = 66 ∧ k = 30) K2 (xw K2 66 30 (Int32.ofNat (c + 1))) := xsm_xw ⟨rfl, rfl⟩ (xsm_refl _ _)
            exact ih (c + 1) C e2 _ _ (by omega) (xsm_trans hJ1 (xsm_trans (xsm_mono hK2 SMA) (xsm_mono hQ (fun o k e => Or.inr e)))) (fun o ho => (hM2 o ho).trans (hM o ho)) ⟨xTpM_sm hQ (by omega) (fun k => by omega) hC.1, hC.2.1, xTM_sm hQ (by omega) (fun o a b k => by omega) hC.2.2⟩ (xCur_sm hQ (fun k a b => by omega) cc) (xw_eq _ _ _ _) q.2.1 hR
        · rw [if_neg (show ¬ Int32.ofNat (tK T n e) = (3 : Int32) from fun x => d3 ((xv_eq (b := 3) (by omega) (by decide)).mp x))]
          rw [if_neg d3] at hR
          subst hR
          refine xbifT (show xbool 0 = true from rfl) ?_
          exact ⟨_, M, rfl, xsm_xw (by unfold sAM sSM; omega) hK, hM, rfl, by rw [xw_eq]; exact kc.2.2.1⟩
  have hQ : xsm (fun o k => o = 66 ∧ (k = 30 ∨ k = 23)) J (xw (xw J 66 30 1) 66 23 0) := xsm_xw (by omega) (xsm_xw (by omega) (xsm_refl _ _))
  have hS : xStM n T A (xw (xw J 66 30 1) 66 23 0) := ⟨xTpM_sm hQ (by omega) (fun k => by omega) h.1, h.2.1, xTM_sm hQ (by omega) (fun o a b k => by omega) h.2.2⟩
  refine xuse (t_look (a := 0) hS.1 (xw_eq _ _ _ _) (Nat.zero_le _)) (by decide) ?_
  rintro _ _ ⟨rfl, K1, rfl, hK1, c1⟩
  refine g_X9_readAll_14 (by decide) ?_
  refine xuse (t_stM (xStM_nm (xsm_mono hK1 lkN) hS) c1 (Nat.zero_le _)) (by decide) ?_
  have hJ1 : xsm sAM J K1 := xsm_trans (xsm_mono hQ (fun o k e => by unfold sAM sSM; omega)) (xsm_mono hK1 lkA)
  have k30 : K1 66 30 = Int32.ofNat 1 := (hK1 66 30 (by unfold sLk; omega)).trans (by rw [xw_ne2 (by decide), xw_eq]; rfl)
  have hR : pAll T n 250 1 A 0 = match pStm T n A 0 with
    | .error f => .error f
    | .ok (B, e) => pTail T n 249 1 B e := rfl
  rw [hR]
  cases g : pStm T n A 0 with
  | error f =>
    rintro r τ ⟨K2, M2, rfl, hK2, hM2, rfl, k27⟩
    refine g_X9_readAll_18 (by decide) ?_
    rw [if_pos rfl]
    exact ⟨K2, M2, rfl, xsm_trans hJ1 (xsm_mono hK2 SMA), hM2, rfl, k27⟩
  | ok p =>
    obtain ⟨C, e2⟩ := p
    have q := pStm_e (Nat.zero_le _) g
    rintro r τ ⟨K2, M2, rfl, hK2, hM2, rfl, hC, cc⟩
    refine g_X9_readAll_18 (by decide) ?_
    rw [if_neg (by decide)]
    exact key _ 249 1 C e2 K2 M2 (by omega) (xsm_trans hJ1 (xsm_mono hK2 SMA)) hM2 hC cc ((hK2 66 30 (by unfold sSM; omega)).trans k30) q.2.1 rfl

/-- what stands behind a stair -/
def stG : Nat → Nat → Prop := fun o k => (10 ≤ o ∧ o ≤ 18) ∨ (28 ≤ o ∧ o ≤ 42) ∨ o = 61 ∨ o = 63 ∨ (o = 65 ∧ k = 0) ∨ (o = 82 ∧ k = 2) ∨ (o = 66 ∧ (k = 7 ∨ k = 9 ∨ k = 10 ∨ k = 17 ∨ k = 20 ∨ (23 ≤ k ∧ k ≤ 27) ∨ k = 30 ∨ k = 32 ∨ k = 36)) ∨ (83 ≤ o ∧ o ≤ 103) ∨ (105 ≤ o ∧ o ≤ 108) ∨ 158 ≤ o
theorem stair_inv {c : Nat} {A B : xAb} {I J : xI} {L M : xL} {z : Bool × Bool × Nat} (h : xInv c A I L z) (g : xsm stG I J) (hM : ∀ o, o ≠ 104 → o < 158 → ∀ k, M o k = L o k) (hB : abOK B) (ht : ab_tell B = ab_tell A) (hX : xTX J 10 B) (hT : xTM J 66 B) (hC : xCache B J) (h61 : J 61 0 = 0) (h66 : J 66 7 = 0) (h65 : J 65 0 = J 82 2) : xInv (c + 1) B J M (z.1, true, z.2.2) := by
  obtain ⟨hb, hs, ha, hcc, ⟨t, t1, t2⟩⟩ := h
  obtain ⟨h0, h1, h2, h3, h4, h5, h6, h7⟩ := hb
  have g' : ∀ o k, ¬ stG o k → J o k = I o k := g
  refine ⟨⟨hB, hX, hT, ?_, ?_, ?_, ?_, ?_⟩, ?_, ?_, hC, t, by omega, ?_⟩
  · intro s hs
    have e := h3 s hs
    have e4 : J 10 4 = I 10 4 := by rw [hX.1.2.2.2.2, h1.1.2.2.2.2, ht]
    unfold xShM at e ⊢
    rw [g' 58 s (by unfold stG; omega), g' 59 s (by unfold stG; omega), g' 67 s (by unfold stG; omega), g' 68 s (by unfold stG; omega), g' 69 s (by unfold stG; omega), g' 80 s (by unfold stG; omega), e4]
    rcases e with e | ⟨v, n, e1, e2, e3, e4, e5, e6, e7, e8⟩ | e
    · exact Or.inl e
    · exact Or.inr (Or.inl ⟨v, n, e1, e2, e3, e4, e5, e6, e7, fun i hi => by rw [hM 60 (by decide) (by decide), hM (71 + s) (by omega) (by omega)]; exact e8 i hi⟩)
    · exact Or.inr (Or.inr e)
  · intro i hi
    by_cases e : i = 0
    · subst e; exact h65
    · rw [g' 65 i (by unfold stG; omega), g' 82 _ (by unfold stG; omega)]; exact h4 i hi
  · exact ⟨0, by decide, h61, h66, fun i hi => absurd hi (Nat.not_lt_zero _)⟩
  · rw [g' 9 11 (by unfold stG; omega)]; exact h6
  · intro hz
    obtain ⟨D, a, b, d⟩ := h7 hz
    exact ⟨D, a, xTX_sm g (fun k hk => by unfold stG; omega) (fun o a b k => by unfold stG; omega) b, xTM_sm g (by unfold stG; omega) (fun o a b k => by unfold stG; omega) d⟩
  · exact xShf_sm g (fun k => by unfold stG; omega) hs
  · exact xAbv_sm g (fun k => by unfold stG; omega) ha
  · exact xTal_sm g (fun o k e => by unfold stG at e; omega) t2
theorem t_backTried {J : xI} {L : xL} {z : Bool × Bool × Nat} {A : xAb} (hA : abOK A) (hz : z.2.1 = true) (hM : xTM J 158 A) : xCd 2 295 [.ref 66, .ref 158] (xS J L z) (fun r τ => r = none ∧ ∃ K, τ = xS K L z ∧ xTf J K 66 158 ∧ xTM K 66 A) := by
  obtain ⟨x, y, N⟩ := z
  have hz : y = true := hz
  subst hz
  cases x
  · refine xuse t_from_66_158_01 (Nat.le_refl _) ?_
    rintro _ _ ⟨rfl, K, rfl, hK⟩
    exact ⟨rfl, K, rfl, hK, xTf_TM hA hK hM⟩
  · refine xuse t_from_66_158_11 (Nat.le_refl _) ?_
    rintro _ _ ⟨rfl, K, rfl, hK⟩
    exact ⟨rfl, K, rfl, hK, xTf_TM hA hK hM⟩
theorem pr_stair : xPq 150 234 [] := by
  intro c A I L z hc h
  have hA := h.1.1
  obtain ⟨n, n250, n61, n66, nb⟩ := h.1.2.2.2.2.2.1
  have hI : xInv c A I L z := h
  obtain ⟨hb, hs, ha, hcc, ht⟩ := h
  obtain ⟨h0, h1, h2, h3, h4, h5, h6, h7⟩ := hb
  have hT : ∃ T : Nat → Nat, (∀ i, T i < 256) ∧ ∀ i, i < n → I 62 i = Int32.ofNat (T i) ∧ I 81 i = Int32.ofNat (T i) := by
    refine ⟨fun i => if i < n then (I 62 i).toNatClampNeg else 0, fun i => ?_, fun i hi => ?_⟩
    · dsimp only
      by_cases q : i < n
      · obtain ⟨_, v, v1, v2⟩ := nb i q
        rw [if_pos q, v2, xv_clamp (by omega)]; exact v1
      · rw [if_neg q]; decide
    · obtain ⟨v0, v, v1, v2⟩ := nb i hi
      dsimp only
      rw [if_pos hi, ← v0, v2, xv_clamp (by omega)]
      exact ⟨rfl, rfl⟩
  obtain ⟨T, T256, hT⟩ := hT
  refine c_X8_stair (d := 29) (g_X8_stair_0 (by decide) ?_)
  refine xuse t_take_28_10 (by decide) ?_
  rintro _ _ ⟨rfl, J1, rfl, hJ1⟩
  refine g_X8_stair_11 (by decide) ?_
  have f1 : xsm (fun o _ => 28 ≤ o ∧ o ≤ 36) I J1 := xsm_mono hJ1.1 (fun o k e => by unfold trS at e; omega)
  have j1X : xStX n T A J1 := ⟨xTpX_sm f1 (by omega) (fun k => by omega) ⟨n250, T256, n61, fun i hi => (hT i hi).1⟩, hA, xTX_sm f1 (fun k hk => by omega) (fun o a b k => by omega) h1, xCache_sm f1 (fun o k e => by unfold noC; omega) hcc, xShf_sm f1 (fun k => by omega) hs⟩
  have j1A : xTX J1 28 A := xTk_TX hA hJ1 h1
  refine xuse (t_allX j1X) (by decide) ?_
  -- the reference, from any state behind the class
  have ref : ∀ (J : xI), xsm (fun o k => (10 ≤ o ∧ o ≤ 18) ∨ (28 ≤ o ∧ o ≤ 42) ∨ o = 61 ∨ o = 63 ∨ o = 65) I J → ∀ F : xQ, (∀ (K K2 : xI) (M M2 : xL), (∀ o, o < 158 → ∀ k, K o k = J o k) → xTM K 158 A → xsm sAM K K2 → (∀ o, o ≠ 104 → o < 158 → ∀ k, M2 o k = L o k) → (match pAll T n 250 1 A 0 with
      | .ok (B, c) => xStM n T B K2 ∧ F (some (.int (Int32.ofNat c))) (xS (xw K2 66 7 0) M2 (z.1, true, z.2.2)) = F (some (.int (xw K2 66 7 0 66 30))) (xS (xw K2 66 7 0) M2 (z.1, true, z.2.2))
      | .error f => K2 66 27 = Int32.ofNat f) → h_X9_stair_9 29 F (0, 0) K2 M2 (z.1, true, z.2.2) (match pAll T n 250 1 A 0 with
      | .ok _ => 1
      | .error _ => 0)) → xCd 30 234 [.ref 66] (xS J L z) F := by
    intro J hJ F hF
    have jM : xTM J 66 A := xTM_sm hJ (by omega) (fun o a b k => by omega) h2
    have jT : xTpM n T J := xTpM_sm hJ (by omega) (fun k => by omega) ⟨n250, T256, n66, fun i hi => (hT i hi).2⟩
    refine c_X9_stair (d := 29) (g_X9_stair_0 (by decide) (xbifT (show (Nat.ble 46 46 && Nat.ble 5872 5872) = true from rfl) ?_))
    refine xuse (t_freshM hA jM) (by decide) ?_
    rintro _ _ ⟨rfl, K, M, rfl, hK, hM, kM⟩
    refine g_X9_stair_4 (by decide) ?_
    have kf : xsm (fun o _ => 158 ≤ o) J K := fun o k e => hK o (by omega) k
    refine xuse (t_allM (A := A) ⟨xTpM_sm kf (by omega) (fun k => by omega) jT, hA, xTM_sm kf (by omega) (fun o a b k => by omega) jM⟩) (by decide) ?_
    rintro r τ ⟨K2, M2, rfl, hK2, hM2, q⟩
    have mm : ∀ o, o ≠ 104 → o < 158 → ∀ k, M2 o k = L o k := fun o a b k => by rw [hM2 o a]; exact hM o (by omega) k
    have := hF K K2 M M2 (fun o ho k => hK o (by omega) k) kM hK2 mm
    cases e : pAll T n 250 1 A 0 with
    | error f =>
      rw [e] at q this
      obtain ⟨rfl, q⟩ := q
      exact this q
    | ok p =>
      obtain ⟨B, c'⟩ := p
      rw [e] at q this
      obtain ⟨rfl, q1, q2⟩ := q
      exact this ⟨q1, by rw [xw_ne2 (by decide), q2]⟩
  cases e : pAll T n 250 1 A 0 with
  | error f =>
    rw [e] at ref
    rintro _ _ ⟨K, rfl, hK, rfl, k1⟩
    refine g_X8_stair_18 (by decide) ?_
    rw [if_pos rfl]
    refine xuse t_take_10_28 (by decide) ?_
    rintro _ _ ⟨rfl, P, rfl, hP⟩
    refine g_X8_stair_43 (by decide) ?_
    have k28 : xTX (xw K 61 0 0) 28 A := xTX_sm (S := fun o k => sSt o k ∨ o = 61) (xsm_xw (Or.inr rfl) (xsm_mono hK (fun o k e => Or.inl e))) (fun k hk => by unfold sSt; omega) (fun o a b k => by unfold sSt; omega) j1A
    have pX := xTk_TX hA hP k28
    have p61 : P 61 1 = Int32.ofNat f := (hP.1 61 1 (by unfold trS; omega)).trans ((xw_ne2 (by decide)).trans k1)
    have p610 : P 61 0 = 0 := (hP.1 61 0 (by unfold trS; omega)).trans (xw_eq _ _ _ _)
    have er : xrfu P (-2) = xw P 65 0 (P 65 0 + 1) := xrfu_at (k := 2) (by decide) (by decide)
    have hPI : xsm (fun o k => (10 ≤ o ∧ o ≤ 18) ∨ (28 ≤ o ∧ o ≤ 42) ∨ o = 61 ∨ o = 63) I P := xsm_trans (xsm_mono f1 (fun o k e => by omega)) (xsm_trans (xsm_mono hK (fun o k e => by unfold sSt at e; omega)) (xsm_trans (J := xw K 61 0 0) (xsm_xw (by omega) (xsm_refl _ _)) (xsm_mono hP.1 (fun o k e => by unfold trS at e; omega))))
    rw [er, xw_ne1 (by decide), p61]
    refine ref (xw P 65 0 (P 65 0 + 1)) (xsm_xw (by omega) (xsm_mono hPI (fun o k e => by omega))) _ ?_
    intro K1 K2 M M2 hK1 k158 hK2 hM2 k27
    refine g_X9_stair_9 (by decide) ?_
    dsimp only
    rw [if_pos rfl]
    have m158 : xTM (xw K2 66 7 0) 158 A := xTM_sm (S := fun o k => sAM o k ∨ o = 66) (xsm_xw (Or.inr rfl) (xsm_mono hK2 (fun o k e => Or.inl e))) (by unfold sAM sSM; omega) (fun o a b k => by unfold sAM sSM; omega) k158
    refine xuse (t_backTried hA rfl m158) (by decide) ?_
    rintro _ _ ⟨rfl, Q, rfl, hQ, qM⟩
    refine g_X9_stair_24 (by decide) ?_
    have c2 : Int32.toNatClampNeg (-(-2 : Int32)) = 2 := rfl
    rw [c2, xw_ne1 (by decide)]
    have q27 : Q 66 27 = Int32.ofNat f := (hQ.1 66 27 (by unfold tfS; omega)).trans ((xw_ne2 (by decide)).trans k27)
    rw [q27]
    have gQ : ∀ o k, ¬ stG o k → Q o k = I o k := fun o k e => by
      unfold stG at e
      rw [hQ.1 o k (by unfold tfS; omega), xw_ne (by omega), hK2 o k (by unfold sAM sSM; omega), hK1 o (by omega) k, xw_ne (by omega)]
      exact hPI o k (by omega)
    have gC : ∀ o k, o < 66 → Q o k = xw P 65 0 (P 65 0 + 1) o k := fun o k e => by
      rw [hQ.1 o k (by unfold tfS; omega), xw_ne (by omega), hK2 o k (by unfold sAM sSM; omega), hK1 o (by omega) k]
    have q82 : Q 82 2 = I 82 2 := by
      rw [hQ.1 82 2 (by unfold tfS; omega), xw_ne (by omega), hK2 82 2 (by unfold sAM sSM; omega), hK1 82 (by omega) 2, xw_ne (by omega)]
      exact hPI 82 2 (by omega)
    have p65 : P 65 0 = I 65 0 := hPI 65 0 (by omega)
    refine ⟨rfl, A, _, M2, _, rfl, stair_inv hI (J := xw Q 82 2 (Q 82 2 + 1)) (xsm_xw (by unfold stG; omega) gQ) hM2 hA rfl ?_ ?_ ?_ ?_ ?_ ?_⟩
    · exact xTX_sm (S := fun o k => o = 65 ∨ 66 ≤ o) (fun o k e => (xw_ne (by omega)).trans ((gC o k (by omega)).trans (xw_ne (by omega)))) (fun k hk => by omega) (fun o a b k => by omega) pX
    · exact xTM_sm (S := fun o k => o = 82) (fun o k e => xw_ne (by omega)) (by omega) (fun o a b k => by omega) qM
    · refine Or.inl ?_
      rw [xw_ne (by omega), gC 10 5 (by omega), xw_ne (by omega)]
      exact hP.2.1
    · rw [xw_ne (by omega), gC 61 0 (by omega), xw_ne (by omega)]; exact p610
    · rw [xw_ne (by omega), hQ.1 66 7 (by unfold tfS; omega), xw_eq]
    · rw [xw_ne (by omega), gC 65 0 (by omega), xw_eq, xw_eq, q82, p65, h4 0 (by decide)]
  | ok p =>
    obtain ⟨B, c'⟩ := p
    rw [e] at ref
    rintro _ _ ⟨K, rfl, hK, rfl, hB⟩
    have pc := pAll_c _ _ _ _ (Nat.zero_le _) e
    refine g_X8_stair_18 (by decide) ?_
    rw [if_neg (show ¬ Int32.ofNat c' = (-1 : Int32) from fun q => by
      rw [show (-1 : Int32) = -(Int32.ofNat 1) from rfl, xv_m1 (by omega) (by decide) (by decide)] at q
      exact q)]
    have hKI : xsm (fun o k => (10 ≤ o ∧ o ≤ 18) ∨ (28 ≤ o ∧ o ≤ 42) ∨ o = 61 ∨ o = 63) I (xw K 61 0 0) := xsm_xw (by omega) (xsm_trans (xsm_mono f1 (fun o k e => by omega)) (xsm_mono hK (fun o k e => by unfold sSt at e; omega)))
    refine ref (xw K 61 0 0) (xsm_mono hKI (fun o k e => by omega)) _ ?_
    intro K1 K2 M M2 hK1 k158 hK2 hM2 ⟨kB, kF⟩
    refine g_X9_stair_9 (by decide) ?_
    dsimp only
    rw [if_neg (by decide), ← kF]
    have gQ : ∀ o k, ¬ stG o k → xw K2 66 7 0 o k = I o k := fun o k e => by
      unfold stG at e
      rw [xw_ne (by omega), hK2 o k (by unfold sAM sSM; omega), hK1 o (by omega) k]
      exact hKI o k (by omega)
    have gC : ∀ o k, o < 66 → xw K2 66 7 0 o k = xw K 61 0 0 o k := fun o k e => by
      rw [xw_ne (by omega), hK2 o k (by unfold sAM sSM; omega), hK1 o (by omega) k]
    refine ⟨rfl, B, _, M2, _, rfl, stair_inv hI gQ hM2 hB.2.1 pc.2.2 ?_ ?_ ?_ ?_ ?_ ?_⟩
    · exact xTX_sm (S := fun o k => o = 61 ∨ 66 ≤ o) (fun o k e => (gC o k (by omega)).trans (xw_ne (by omega))) (fun k hk => by omega) (fun o a b k => by omega) hB.2.2.1
    · exact xTM_sm (S := fun o k => o = 66 ∧ k = 7) (fun o k e => xw_ne (by omega)) (by omega) (fun o a b k => by omega) kB.2.2
    · exact xCache_sm (S := fun o k => o = 61 ∨ 66 ≤ o) (fun o k e => (gC o k (by omega)).trans (xw_ne (by omega))) (fun o k e => by unfold noC; omega) hB.2.2.2.1
    · rw [gC 61 0 (by omega), xw_eq]
    · rw [xw_eq]
    · have q82 : xw K2 66 7 0 82 2 = I 82 2 := by
        rw [xw_ne (by omega), hK2 82 2 (by unfold sAM sSM; omega), hK1 82 (by omega) 2]
        exact hKI 82 2 (by omega)
      rw [gC 65 0 (by omega), hKI 65 0 (by omega), q82]
      exact h4 0 (by decide)
