/-! promise stair: all statements of the class; the reference's side -/
theorem pAll_c {T : Nat → Nat} {n : Nat} {B : xAb} {c' : Nat} : ∀ m c (A : xAb) a, a ≤ n → pAll T n m c A a = .ok (B, c') → c ≤ c' ∧ c' < c + m ∧ ab_tell B = ab_tell A
  | 0, c, A, a, an, h => by cases h
  | m + 1, c, A, a, an, h => by
    unfold pAll at h
    split at h
    · cases h
    · rename_i C e g
      have q := pStm_e an g
      split at h
      · cases h; exact ⟨Nat.le_refl _, by omega, q.2.2⟩
      · split at h
        · have := pAll_c m (c + 1) C _ (tE_le q.2.1).2.1 h
          exact ⟨by omega, by omega, this.2.2.trans q.2.2⟩
        · cases h
theorem t_allX {n : Nat} {T : Nat → Nat} {A : xAb} {J : xI} {L : xL} {z : Bool × Bool × Nat} (h : xStX n T A J) : xCd 8 57 [.ref 61] (xS J L z) (fun r τ => ∃ K, τ = xS K L z ∧ xsm sSt J K ∧ match pAll T n 250 1 A 0 with
    | .ok (B, c) => r = some (.int (Int32.ofNat c)) ∧ xStX n T B K
    | .error f => r = some (.int (-1)) ∧ K 61 1 = Int32.ofNat f) := by
  refine c_X4_readStatements (d := 7) (g_X4_readStatements_0 (by decide) ?_)
  have n250 := h.1.1
  have key : ∀ (R : Except Nat (xAb × Nat)) m c (B : xAb) e (K : xI), c + m = 251 → n < e + 2 * m → xsm sSt J K → xStX n T B K → K 61 6 = Int32.ofNat e → e ≤ n → pAll T n m c B e = R → h_X4_readStatements_12 7 (fun r τ => ∃ K, τ = xS K L z ∧ xsm sSt J K ∧ match R with
    | .ok (B, c) => r = some (.int (Int32.ofNat c)) ∧ xStX n T B K
    | .error f => r = some (.int (-1)) ∧ K 61 1 = Int32.ofNat f) (0, 0) K L z (Int32.ofNat c) := by
    intro R m
    induction m with
    | zero => intro c B e K _ _ _ _ _ _; omega
    | succ m ih =>
      intro c B e K hc hm hK hB k6 en hR
      refine g_X4_readStatements_12 (by decide) ?_
      rw [if_neg (show ¬ (250 : Int32) < Int32.ofNat c from fun q => by have := (xv_lt (a := 250) (by decide) (by omega)).mp q; omega)]
      refine xuse (t_tok hB.1 k6 en) (by decide) ?_
      rintro _ _ ⟨rfl, K1, rfl, hK1, a6, a7, a8, _⟩
      have hN1 : xsm sNm K K1 := xsm_mono hK1 (fun o k e => by unfold sTk at e; unfold sNm; omega)
      refine g_X4_readStatements_23 (by decide) ?_
      refine xuse (t_stX (xStX_nm hN1 hB) ⟨a6, a7, a8⟩ en) (by decide) ?_
      unfold pAll at hR
      cases g : pStm T n B e with
      | error f =>
        rw [g] at hR
        rintro r τ ⟨K2, rfl, hK2, rfl, k1⟩
        refine g_X4_readStatements_27 (by decide) ?_
        rw [if_pos rfl]
        subst hR
        exact ⟨K2, rfl, xsm_trans hK (xsm_trans (xsm_mono hN1 sNm_St) hK2), rfl, k1⟩
      | ok p =>
        obtain ⟨C, e2⟩ := p
        rw [g] at hR
        have q := pStm_e en g
        rintro r τ ⟨K2, rfl, hK2, rfl, hC, c6⟩
        refine g_X4_readStatements_27 (by decide) ?_
        rw [if_neg (by decide)]
        refine xuse (t_tok hC.1 c6 q.2.1) (by decide) ?_
        rintro _ _ ⟨rfl, K3, rfl, hK3, b6, b7, b8, _⟩
        have hN3 : xsm sNm K2 K3 := xsm_mono hK3 (fun o k e => by unfold sTk at e; unfold sNm; omega)
        refine g_X4_readStatements_36 (by decide) ?_
        have tk := tK_lt T n e2
        have te := tE_le (T := T) q.2.1
        have ts := tS_le (T := T) q.2.1
        have all : xsm sSt J K3 := xsm_trans hK (xsm_trans (xsm_mono hN1 sNm_St) (xsm_trans hK2 (xsm_mono hN3 sNm_St)))
        rw [b7]
        dsimp only at hR
        by_cases d0 : tK T n e2 = 0
        · rw [if_pos (show Int32.ofNat (tK T n e2) = 0 from by rw [d0]; rfl)]
          rw [if_pos d0] at hR
          subst hR
          exact ⟨K3, rfl, all, rfl, xStX_nm hN3 hC⟩
        · rw [if_neg (show ¬ Int32.ofNat (tK T n e2) = (0 : Int32) from fun x => d0 ((xv_eq (b := 0) (by omega) (by decide)).mp x))]
          rw [if_neg d0] at hR
          by_cases d3 : tK T n e2 = 3
          · rw [if_pos (show Int32.ofNat (tK T n e2) = 3 from by rw [d3]; rfl), show Int32.ofNat c + 1 = Int32.ofNat (c + 1) from xv_add c 1]
            rw [if_pos d3] at hR
            have := te.2.2 d0
            exact ih (c + 1) C _ K3 (by omega) (by omega) all (xStX_nm hN3 hC) b6 te.2.1 hR
          · rw [if_neg (show ¬ Int32.ofNat (tK T n e2) = (3 : Int32) from fun x => d3 ((xv_eq (b := 3) (by omega) (by decide)).mp x))]
            rw [if_neg d3] at hR
            subst hR
            exact ⟨_, rfl, xsm_xw (by unfold sSt; omega) all, rfl, by rw [xw_eq]; exact b8⟩
  have hJ0 : xsm sNm J (xw (xw J 61 6 0) 61 1 0) := xsm_xw (by unfold sNm; omega) (xsm_xw (by unfold sNm; omega) (xsm_refl _ _))
  exact key _ 250 1 A 0 _ rfl (by omega) (xsm_mono hJ0 sNm_St) (xStX_nm hJ0 h) (by rw [xw_ne2 (by decide), xw_eq]; rfl) (Nat.zero_le _) rfl
/-- the reference -/
def sNM : Nat → Nat → Prop := fun o k => (o = 66 ∧ 23 ≤ k ∧ k ≤ 27) ∨ o = 103
def qNM (n : Nat) (T : Nat → Nat) (a lo hi i : Nat) (J : xI) (L : xL) (z : Bool × Bool × Nat) : xQ := fun r τ => ∃ K, τ = xS K L z ∧ xsm sNM J K ∧ ((nOk T n a lo hi = true ∧ r = some (.int 1) ∧ K 103 i = Int32.ofNat (tV T n a) ∧ (∀ j, j ≠ i → K 103 j = J 103 j) ∧ xCur n T (tE T n a) K) ∨ (nOk T n a lo hi = false ∧ r = some (.int 0) ∧ K 66 27 = Int32.ofNat (tS T n a)))
theorem t_numM {n a lo hi i : Nat} {T : Nat → Nat} {J : xI} {L : xL} {z : Bool × Bool × Nat} (h : xTpM n T J) (hc : xCur n T a J) (an : a ≤ n) (hi4 : i < 4) (h1 : lo < 1000) (h2 : hi < 1000) : xCd 3 227 [.ref 66, .int (Int32.ofNat i), .int (Int32.ofNat lo), .int (Int32.ofNat hi)] (xS J L z) (qNM n T a lo hi i J L z) := by
  refine c_X9_number (d := 2) (g_X9_number_0 (by decide) ?_)
  have te := tE_le (T := T) an
  have tk := tK_lt T n a
  have b := tV_le T n a
  have no : ¬ (tK T n a = 2 ∧ lo ≤ tV T n a ∧ tV T n a ≤ hi) → (bif xbool 0 then qNM n T a lo hi i J L z (some (.int 0)) (xS (xw J 66 27 (J 66 25)) L z) else False) := fun c => xbifT rfl ⟨_, rfl, xsm_xw (by unfold sNM; omega) (xsm_refl _ _), Or.inr ⟨decide_eq_false c, rfl, by rw [xw_eq]; exact hc.2.2.1⟩⟩
  rw [hc.2.1]
  by_cases c : tK T n a = 2
  · rw [if_pos (show Int32.ofNat (tK T n a) = 2 from by rw [c]; rfl), hc.2.2.2 c]
    have pi : p_X9_in J L (Int32.toInt64 (Int32.ofNat (tV T n a))) (Int32.toInt64 (Int32.ofNat lo)) (Int32.toInt64 (Int32.ofNat hi)) ↔ (lo ≤ tV T n a ∧ tV T n a ≤ hi) := by
      rw [xp_in64, Int32.toInt_toInt64, Int32.toInt_toInt64, Int32.toInt_toInt64, xv_int (by omega), xv_int (by omega), xv_int (by omega)]
      omega
    by_cases d : lo ≤ tV T n a ∧ tV T n a ≤ hi
    · rw [if_pos (pi.mpr d), if_pos ((xv_in (by omega)).mpr hi4), xv_clamp (by omega)]
      have hJ2 : xsm sNM J (xw J 103 i (Int32.ofNat (tV T n a))) := xsm_xw (by unfold sNM; omega) (xsm_refl _ _)
      refine xuse (t_look (a := tE T n a) (xTpM_sm hJ2 (by unfold sNM; omega) (fun k => by unfold sNM; omega) h) (by rw [xw_ne1 (by decide)]; exact hc.1) te.2.1) (by decide) ?_
      rintro _ _ ⟨rfl, K, rfl, hK, hC⟩
      refine g_X9_number_42 (by decide) ⟨K, rfl, xsm_trans hJ2 (xsm_mono hK (fun o k e => by unfold sLk at e; unfold sNM; omega)), Or.inl ⟨decide_eq_true ⟨c, d⟩, rfl, ?_, ?_, hC⟩⟩
      · rw [hK 103 i (by unfold sLk; omega), xw_eq]
      · intro j hj
        rw [hK 103 j (by unfold sLk; omega), xw_ne2 hj]
    · rw [if_neg (fun q => d (pi.mp q))]
      exact no (fun q => d q.2)
  · rw [if_neg (show ¬ Int32.ofNat (tK T n a) = (2 : Int32) from fun q => c ((xv_eq (b := 2) (by omega) (by decide)).mp q))]
    exact no (fun q => c q.1)
theorem t_tellsM {n b lo hi : Nat} {T : Nat → Nat} {J : xI} {L : xL} {z : Bool × Bool × Nat} (h : xTpM n T J) (hb : J 66 23 = Int32.ofNat b) (bn : b ≤ n) (h1 : lo < 1000) (h2 : hi < 1000) : xCd 4 228 [.ref 66, .int (Int32.ofNat lo), .int (Int32.ofNat hi)] (xS J L z) (fun r τ => ∃ J', xsm sNM J J' ∧ qNM n T b lo hi 0 J' L z r τ) := by
  refine c_X9_tells (d := 3) (g_X9_tells_0 (by decide) ?_)
  refine xuse (t_look h hb bn) (by decide) ?_
  rintro _ _ ⟨rfl, K, rfl, hK, hC⟩
  refine g_X9_tells_4 (by decide) ?_
  have hK2 : xsm sNM J K := xsm_mono hK (fun o k e => by unfold sLk at e; unfold sNM; omega)
  refine xuse (t_numM (i := 0) (xTpM_sm hK2 (by unfold sNM; omega) (fun k => by unfold sNM; omega) h) hC bn (by decide) h1 h2) (by decide) ?_
  rintro r τ ⟨M, rfl, hM, ⟨ok, rfl, q⟩ | ⟨ok, rfl, q⟩⟩
  · exact g_X9_tells_11 (by decide) (xbifT rfl ⟨K, hK2, M, rfl, hM, Or.inl ⟨ok, rfl, q⟩⟩)
  · exact g_X9_tells_11 (by decide) (xbifT rfl ⟨K, hK2, M, rfl, hM, Or.inr ⟨ok, rfl, q⟩⟩)
theorem t_isWord {n a w : Nat} {T : Nat → Nat} {J : xI} {L : xL} {z : Bool × Bool × Nat} (h : xTpM n T J) (hc : xCur n T a J) (an : a ≤ n) (hw : Nat.beq (xkind w) 24 = true) (hl : (xtext w).length < 256) (hb : ∀ i, i < (xtext w).length → xnth 0 (xtext w) i < 256) : xCd 1 226 [.ref 66, .ref w] (xS J L z) (qP J L z (if isWd T n a (xtext w) = true then 1 else 0)) := by
  obtain ⟨k6, k7, k8, _⟩ := hc
  have n250 := h.1
  have te := tE_le (T := T) an
  have tk := tK_lt T n a
  refine c_X9_isWord (d := 0) (g_X9_isWord_0 (by decide) ?_)
  have gd : (Nat.beq (xkind w) 24 && Nat.ble 1 4) = true := by rw [hw]; rfl
  have no : ¬ (tK T n a = 1 ∧ tE T n a - tS T n a = (xtext w).length ∧ ∀ i, i < (xtext w).length → T (tS T n a + i) = xnth 0 (xtext w) i) → qP J L z (if isWd T n a (xtext w) = true then 1 else 0) (some (.int 0)) (xS J L z) := fun c => by
    rw [if_neg (show ¬ isWd T n a (xtext w) = true from fun q => c (of_decide_eq_true q))]; exact ⟨rfl, rfl⟩
  rw [k7]
  by_cases c : tK T n a = 1
  · rw [if_pos (show Int32.ofNat (tK T n a) = 1 from by rw [c]; rfl)]
    refine xbifT gd ?_
    rw [k6, k8, show Int32.ofNat (tE T n a) - Int32.ofNat (tS T n a) = Int32.ofNat (tE T n a - tS T n a) from xv_sub te.1]
    by_cases d : tE T n a - tS T n a = (xtext w).length
    · rw [if_pos (by rw [d])]
      have key : ∀ i, i ≤ (xtext w).length → (∀ j, j < i → T (tS T n a + j) = xnth 0 (xtext w) j) → h_X9_isWord_28 0 (qP J L z (if isWd T n a (xtext w) = true then 1 else 0)) (0, 0) J L z w (Int32.ofNat i) := by
        refine xcount _ (xtext w).length ?_ ?_
        · intro i hi KK hj
          refine g_X9_isWord_28 (by decide) (xbifT gd ?_)
          rw [if_pos ((xv_lt (by omega) (by omega)).mpr hi), k8, xv_add, if_pos ((xv_in (by omega)).mpr (by omega))]
          refine xbifT gd ?_
          have b1 := h.2.1 (tS T n a + i)
          have b2 := hb i hi
          rw [if_pos ((xv_in (by omega)).mpr hi), xv_clamp (by omega), xv_clamp (by omega), h.2.2.2 _ (by omega)]
          by_cases e : T (tS T n a + i) = xnth 0 (xtext w) i
          · rw [if_pos (by rw [e]), show Int32.ofNat i + 1 = Int32.ofNat (i + 1) from xv_add i 1]
            refine KK (fun j hj2 => ?_)
            by_cases f : j = i
            · rw [f]; exact e
            · exact hj j (by omega)
          · rw [if_neg (fun q => e ((xv_eq (by omega) (by omega)).mp q))]
            exact no (fun q => e (q.2.2 i hi))
        · intro hj
          refine g_X9_isWord_28 (by decide) (xbifT gd ?_)
          rw [if_neg (fun q => absurd ((xv_lt (by omega) (by omega)).mp q) (Nat.lt_irrefl _))]
          rw [if_pos (show isWd T n a (xtext w) = true from decide_eq_true ⟨c, d, hj⟩)]
          exact ⟨rfl, rfl⟩
      exact key 0 (Nat.zero_le _) (fun j hj => absurd hj (Nat.not_lt_zero _))
    · rw [if_neg (fun q => d ((xv_eq (by omega) (by omega)).mp q))]
      exact no (fun q => d q.2.1)
  · rw [if_neg (show ¬ Int32.ofNat (tK T n a) = (1 : Int32) from fun q => c ((xv_eq (b := 1) (by omega) (by decide)).mp q))]
    exact no (fun q => c q.1)
/-- the reference at a place of the tape -/
def xStM (n : Nat) (T : Nat → Nat) (A : xAb) (J : xI) : Prop := xTpM n T J ∧ abOK A ∧ xTM J 66 A
def sSM : Nat → Nat → Prop := fun o k => (o = 66 ∧ (k = 9 ∨ k = 10 ∨ (23 ≤ k ∧ k ≤ 27) ∨ k = 32 ∨ k = 36)) ∨ (83 ≤ o ∧ o ≤ 100) ∨ o = 103 ∨ (105 ≤ o ∧ o ≤ 108)
def qSM (n : Nat) (T : Nat → Nat) (R : pR) (J : xI) (L : xL) (z : Bool × Bool × Nat) : xQ := fun r τ => ∃ K M, τ = xS K M z ∧ xsm sSM J K ∧ (∀ o, o ≠ 104 → M o = L o) ∧ match R with
  | .ok (B, e) => r = some (.int 1) ∧ xStM n T B K ∧ xCur n T e K
  | .error f => r = some (.int 0) ∧ K 66 27 = Int32.ofNat f
theorem sNM_SM : ∀ o k, sNM o k → sSM o k := fun o k e => by unfold sNM at e; unfold sSM; omega
theorem scrF_SM : ∀ o k, scrF o k → sSM o k := fun o k e => by unfold scrF at e; unfold sSM; omega
theorem xStM_nm {n : Nat} {T : Nat → Nat} {A : xAb} {J K : xI} (hK : xsm sNM J K) (h : xStM n T A J) : xStM n T A K :=
  ⟨xTpM_sm hK (by unfold sNM; omega) (fun k => by unfold sNM; omega) h.1, h.2.1, xTM_sm hK (by unfold sNM; omega) (fun o a b k => by unfold sNM; omega) h.2.2⟩
theorem xStM_tp {n : Nat} {T : Nat → Nat} {J K : xI} (hK : xsm sSM J K) (h : xTpM n T J) : xTpM n T K := xTpM_sm hK (by unfold sSM; omega) (fun k => by unfold sSM; omega) h
theorem xCur_sm {n e : Nat} {T : Nat → Nat} {S : Nat → Nat → Prop} {J K : xI} (hK : xsm S J K) (hS : ∀ k, 23 ≤ k → k ≤ 26 → ¬ S 66 k) (h : xCur n T e J) : xCur n T e K := ⟨(hK _ _ (hS 23 (by decide) (by decide))).trans h.1, (hK _ _ (hS 24 (by decide) (by decide))).trans h.2.1, (hK _ _ (hS 25 (by decide) (by decide))).trans h.2.2.1, fun q => (hK _ _ (hS 26 (by decide) (by decide))).trans (h.2.2.2 q)⟩
theorem qSM_no {n f : Nat} {T : Nat → Nat} {J K : xI} {L M : xL} {z : Bool × Bool × Nat} (hK : xsm sSM J K) (hM : ∀ o, o ≠ 104 → M o = L o) (h : K 66 27 = Int32.ofNat f) : qSM n T (.error f) J L z (some (.int 0)) (xS K M z) := ⟨K, M, rfl, hK, hM, rfl, h⟩
theorem qSM_ok {n e : Nat} {T : Nat → Nat} {B : xAb} {J K : xI} {L M : xL} {z : Bool × Bool × Nat} (hK : xsm sSM J K) (hM : ∀ o, o ≠ 104 → M o = L o) (hp : xTpM n T J) (hB : abOK B) (hX : xTM K 66 B) (hc : xCur n T e K) : qSM n T (.ok (B, e)) J L z (some (.int 1)) (xS K M z) := ⟨K, M, rfl, hK, hM, rfl, ⟨xStM_tp hK hp, hB, hX⟩, hc⟩
theorem t_pourTM {n b : Nat} {T : Nat → Nat} {A : xAb} {J : xI} {L : xL} {z : Bool × Bool × Nat} (h : xStM n T A J) (hb : J 66 23 = Int32.ofNat b) (bn : b ≤ n) : xCd 5 229 [.ref 66] (xS J L z) (qSM n T (pPour T n A (ab_n A) b (fun _ => 0)) J L z) := by
  refine c_X9_pourTold (d := 4) (g_X9_pourTold_0 (by decide) ?_)
  have hA := h.2.1
  have h6 := hA.1.2
  refine xuse (t_look h.1 hb bn) (by decide) ?_
  rintro _ _ ⟨rfl, J1, rfl, hJ1, hC⟩
  refine g_X9_pourTold_4 (by decide) ?_
  have hN1 : xsm sNM J J1 := xsm_mono hJ1 (fun o k e => by unfold sLk at e; unfold sNM; omega)
  have key : ∀ m, m ≤ ab_n A → ∀ (e : Nat) (f : Nat → Nat) (K : xI) (M : xL), xsm sNM J K → (∀ o, o ≠ 104 → M o = L o) → xCur n T e K → e ≤ n → (∀ j, j < ab_n A - m → M 104 j = Int32.toInt64 (Int32.ofNat (f j))) → (∀ j, f j < 6) → (∀ j, ab_n A - m ≤ j → f j = 0) → h_X9_pourTold_6 4 (qSM n T (pPour T n A m e f) J L z) (0, 0) K M z (Int32.ofNat (ab_n A - m)) := by
    intro m
    induction m with
    | zero =>
      intro _ e f K M hK hM hc en hf f6 f0
      refine g_X9_pourTold_6 (by decide) ?_
      have hK' := xStM_nm hK h
      have kn : K 66 9 = Int32.ofNat (ab_n A) := hK'.2.2.1.1
      rw [kn, if_neg (fun q => absurd ((xv_lt (by omega) (by omega)).mp q) (by omega))]
      refine xuse (t_pours (n := ab_n A) (a := 104) (f := f) (fun _ => rfl) (show ab_n A ≤ 6 from h6) kn h6 (fun i hi => by rw [hf i (by omega), Int32.toInt32_toInt64])) (by decide) ?_
      rintro _ _ ⟨rfl, P, rfl, hP, pf, pk⟩
      refine g_X9_pourTold_53 (by decide) ?_
      refine qSM_ok (xsm_trans (xsm_mono hK sNM_SM) (xsm_mono hP (fun o k e => by unfold scrPo at e; unfold sSM; omega))) hM h.1 (abOK_lay hA hA.1 (fun k _ => f6 k) (fun k _ => f6 k) (fun k hk _ => ⟨f0 k (by omega), f0 k (by omega)⟩)) ?_ (xCur_sm hP (fun k a b => by unfold scrPo; omega) hc)
      refine xTM_lay hK'.2.2 ((hP 66 9 (by unfold scrPo; omega)).trans kn) (hP 66 10 (by unfold scrPo; omega)) (hP 66 20 (by unfold scrPo; omega)) (hP 66 17 (by unfold scrPo; omega)) (fun k hk => ?_) (fun k hk => (pf k hk).2) pk (fun o ho k => hP o k (by unfold scrPo; omega))
      by_cases c : k < ab_n A
      · exact (pf k c).1
      · have := hK'.2.2.2.1 k hk
        rw [hP (66 + 17) k (by unfold scrPo; omega), this, (hA.2.2.2.2.1 k (by omega) hk).1, f0 k (by omega)]
    | succ m ih =>
      intro hm e f K M hK hM hc en hf f6 f0
      refine g_X9_pourTold_6 (by decide) ?_
      have hK' := xStM_nm hK h
      have kn : K 66 9 = Int32.ofNat (ab_n A) := hK'.2.2.1.1
      have te := tE_le (T := T) en
      have st : pPour T n A (m + 1) e f = if nOk T n e 0 5 = true then pPour T n A m (tE T n e) (fun j => if j = ab_n A - (m + 1) then tV T n e else f j) else .error (tS T n e) := rfl
      rw [st, kn, if_pos ((xv_lt (by omega) (by omega)).mpr (by omega))]
      refine xuse (t_numM (i := 0) (lo := 0) (hi := 5) hK'.1 hc en (by decide) (by decide) (by decide)) (by decide) ?_
      rintro _ _ ⟨P, rfl, hP, ⟨ok, rfl, p0, _, pc⟩ | ⟨ok, rfl, p1⟩⟩
      · refine g_X9_pourTold_21 (by decide) ?_
        have w := nOk_iff.mp ok
        rw [if_pos ok, if_neg (by decide), if_pos ((xv_in (by omega)).mpr (by omega)), xv_clamp (by omega), show Int32.toNatClampNeg 0 = 0 from rfl, p0, show Int32.ofNat (ab_n A - (m + 1)) + 1 = Int32.ofNat (ab_n A - (m + 1) + 1) from xv_add _ 1, show ab_n A - (m + 1) + 1 = ab_n A - m from by omega]
        refine ih (by omega) _ _ _ _ (xsm_trans hK hP) ?_ pc te.2.1 ?_ ?_ ?_
        · intro o ho
          funext k
          rw [xwl_ne1 ho, hM o ho]
        · intro j hj
          show _ = Int32.toInt64 (Int32.ofNat (if j = ab_n A - (m + 1) then tV T n e else f j))
          by_cases c : j = ab_n A - (m + 1)
          · rw [if_pos c, c, xwl_eq]
          · rw [if_neg c, xwl_ne (fun q => c q.2)]; exact hf j (by omega)
        · intro j
          show (if j = ab_n A - (m + 1) then tV T n e else f j) < 6
          split
          · omega
          · exact f6 j
        · intro j hj
          show (if j = ab_n A - (m + 1) then tV T n e else f j) = 0
          rw [if_neg (by omega)]; exact f0 j (by omega)
      · refine g_X9_pourTold_21 (by decide) ?_
        rw [if_pos rfl, if_neg (by rw [ok]; decide)]
        exact qSM_no (xsm_trans (xsm_mono hK sNM_SM) (xsm_mono hP sNM_SM)) hM p1
  have q := key (ab_n A) (Nat.le_refl _) b (fun _ => 0) J1 L hN1 (fun _ _ => rfl) hC bn (fun j hj => absurd hj (by omega)) (fun j => by decide) (fun j hj => rfl)
  rw [Nat.sub_self] at q
  exact q
theorem t_signTM {n b : Nat} {T : Nat → Nat} {A : xAb} {J : xI} {L : xL} {z : Bool × Bool × Nat} (h : xStM n T A J) (hb : J 66 23 = Int32.ofNat b) (bn : b ≤ n) : xCd 14 230 [.ref 66] (xS J L z) (qSM n T (pSign T n A b) J L z) := by
  refine c_X9_signTold (d := 13) (g_X9_signTold_0 (by decide) ?_)
  have hA := h.2.1
  have h6 := hA.1.2
  have h2 := hA.1.1
  have hn : J 66 9 = Int32.ofNat (ab_n A) := h.2.2.1.1
  have t1 := tE_le (T := T) bn
  have t2 := tE_le (T := T) t1.2.1
  have t3 := tE_le (T := T) t2.2.1
  rw [hn, show Int32.ofNat (ab_n A) - 1 = Int32.ofNat (ab_n A - 1) from xv_sub (b := 1) (by omega)]
  refine xuse (t_tellsM (lo := 0) (hi := ab_n A - 1) h.1 hb bn (by decide) (by omega)) (by decide) ?_
  unfold pSign
  rintro _ _ ⟨J1, hJ1, K, rfl, hK, ⟨ok, rfl, k0, _, kc⟩ | ⟨ok, rfl, k1⟩⟩
  · refine g_X9_signTold_11 (by decide) ?_
    have v := nOk_iff.mp ok
    have hK' := xStM_nm (xsm_trans hJ1 hK) h
    rw [if_pos ok, if_neg (by decide)]
    refine xuse (t_numM (i := 1) (lo := 0) (hi := 3) hK'.1 kc t1.2.1 (by decide) (by decide) (by decide)) (by decide) ?_
    rintro _ _ ⟨M, rfl, hM, ⟨ok2, rfl, m1, m0, mc⟩ | ⟨ok2, rfl, m27⟩⟩
    · refine g_X9_signTold_21 (by decide) ?_
      have v2 := nOk_iff.mp ok2
      have hM' := xStM_nm hM hK'
      have hJM : xsm sSM J M := xsm_trans (xsm_mono (xsm_trans hJ1 hK) sNM_SM) (xsm_mono hM sNM_SM)
      have m0 : M 103 0 = Int32.ofNat (tV T n b) := (m0 0 (by decide)).trans k0
      have tk := tK_lt T n (tE T n (tE T n b))
      rw [if_pos ok2, if_neg (by decide), show Int32.toNatClampNeg 1 = 1 from rfl, show Int32.toNatClampNeg 0 = 0 from rfl, m0, m1, mc.2.1]
      have no : ∀ R : pR, R = .error (tS T n (tE T n (tE T n b))) → (bif xbool 0 then qSM n T R J L z (some (.int 0)) (xS (xw M 66 27 (M 66 25)) L z) else False) := fun R hR => by
        subst hR
        refine xbifT (show xbool 0 = true from rfl) ?_
        exact qSM_no (xsm_xw (by unfold sSM; omega) hJM) (fun _ _ => rfl) (by rw [xw_eq]; exact mc.2.2.1)
      by_cases c : tK T n (tE T n (tE T n b)) = 2
      · rw [if_pos (show Int32.ofNat (tK T n (tE T n (tE T n b))) = 2 from by rw [c]; rfl), mc.2.2.2 c]
        have bv := tV_le T n (tE T n (tE T n b))
        have sn := xm_seen (I := M) (L := L) (a2 := Int32.ofNat (tV T n (tE T n b))) (a3 := Int32.ofNat (tV T n (tE T n (tE T n b))))
        rw [xv_int (by omega), xv_int (by omega)] at sn
        have inn : p_X9_in M L (Int32.toInt64 (Int32.ofNat (tV T n (tE T n b)))) (Int64.ofNat 0) (Int64.ofNat 3) := (xp_in (by decide) (by decide)).mpr (by rw [xv_int (by omega)]; omega)
        by_cases mb : p_X9_mayBe M L (Int32.ofNat (tV T n (tE T n b))) (Int32.ofNat (tV T n (tE T n (tE T n b))))
        · rw [if_pos mb]
          have q := sn.mp ⟨inn, mb⟩
          have h3 : tV T n (tE T n b) = 3 → tV T n (tE T n (tE T n b)) < 6 := fun e => by have := q.2.2 (by omega); omega
          have ok3 : nOk T n (tE T n (tE T n b)) 0 9 = true := nOk_iff.mpr ⟨c, by omega, by omega⟩
          rw [if_pos ok3]
          refine xuse (t_isSeen hA hM'.2.2 (show tV T n b < ab_n A by omega) (show tV T n (tE T n b) < 4 by omega) (show tV T n (tE T n (tE T n b)) < 10 by omega)) (by decide) ?_
          rintro _ _ ⟨rfl, P, rfl, hP, pM⟩
          refine g_X9_signTold_70 (by decide) ?_
          have pcur := xCur_sm hP (fun k a b => by unfold scrF; omega) mc
          have hJP : xsm sSM J P := xsm_trans hJM (xsm_mono hP scrF_SM)
          have p0 : P 103 0 = Int32.ofNat (tV T n b) := (hP 103 0 (by unfold scrF; omega)).trans m0
          have p1 : P 103 1 = Int32.ofNat (tV T n (tE T n b)) := (hP 103 1 (by unfold scrF; omega)).trans m1
          by_cases z0 : aHv A (tV T n b) (tV T n (tE T n b)) (tV T n (tE T n (tE T n b))) = 0
          · rw [if_pos z0, if_pos z0, if_pos rfl]
            refine xbifT (show xbool 0 = true from rfl) ?_
            exact qSM_no (xsm_xw (by unfold sSM; omega) hJP) (fun _ _ => rfl) (by rw [xw_eq]; exact pcur.2.2.1)
          · have qk := xis_known (I := P) (L := L) (z := z) (show tV T n b < 6 by omega)
            rw [if_neg z0, if_neg z0, if_neg (by decide), show Int32.toNatClampNeg 1 = 1 from rfl, show Int32.toNatClampNeg 0 = 0 from rfl, p0, p1, if_pos ((xv_in (by omega)).mpr (by omega)), xv_clamp (show tV T n b < 2147483648 by omega)]
            refine xbifT qk.2.1 ?_
            rw [qk.2.2, if_pos ((xv_in (by omega)).mpr (by omega)), xv_clamp (by omega), pcur.2.2.2 c]
            have hQ : xsm sSM J (xw P (94 + 1 + tV T n b) (tV T n (tE T n b)) (Int32.ofNat (tV T n (tE T n (tE T n b))))) := xsm_xw (by unfold sSM; omega) hJP
            have qM : xTM (xw P (66 + 29 + tV T n b) (tV T n (tE T n b)) (Int32.ofNat (tV T n (tE T n (tE T n b))))) 66 (ab_lrn A (tV T n b) (tV T n (tE T n b)) (tV T n (tE T n (tE T n b)))) := by
              rcases known_cases (A := A) (tV T n b) (tV T n (tE T n b)) with ⟨kn, _⟩ | ⟨s, s1, s2, s3⟩
              · exact (xTM_lrn (by omega) (by omega) (by omega) pM).1 kn
              · have sv : s % 10 = tV T n (tE T n (tE T n b)) := by
                  have q := aHv_old (v := tV T n (tE T n (tE T n b))) (show tV T n (tE T n b) < 4 by omega) s1 s2
                  by_cases d : s % 10 = tV T n (tE T n (tE T n b))
                  · exact d
                  · rw [if_neg d] at q; exact absurd q z0
                have nk : ¬ ab_known A (tV T n b) (tV T n (tE T n b)) = -1 := fun q => known_no.mp q s s1 s2
                have e : ab_lrn A (tV T n b) (tV T n (tE T n b)) (tV T n (tE T n (tE T n b))) = A := if_neg nk
                rw [e]
                exact xTM_same (by omega) (by omega) (by rw [s3, sv]) pM
            have hp2 := xStM_tp hQ h.1
            refine xuse (t_look (a := tE T n (tE T n (tE T n b))) hp2 (by rw [xw_ne1 (by omega)]; exact pcur.1) t3.2.1) (by decide) ?_
            rintro _ _ ⟨rfl, R, rfl, hR, rc⟩
            refine g_X9_signTold_104 (by decide) ?_
            exact qSM_ok (xsm_trans hQ (xsm_mono hR (fun o k e => by unfold sLk at e; unfold sSM; omega))) (fun _ _ => rfl) h.1 (lrn_OK hA (by omega) (by omega) (by omega) h3) (xTM_sm hR (by unfold sLk; omega) (fun o a b k => by unfold sLk; omega) qM) rc
        · rw [if_neg mb]
          refine no _ ?_
          by_cases ok3 : nOk T n (tE T n (tE T n b)) 0 9 = true
          · have v3 := nOk_iff.mp ok3
            rw [if_pos ok3, if_pos ?_]
            by_cases z0 : aHv A (tV T n b) (tV T n (tE T n b)) (tV T n (tE T n (tE T n b))) = 0
            · exact z0
            · exfalso
              refine mb (sn.mpr ⟨by omega, by omega, fun e => ?_⟩).2
              have e3 : tV T n (tE T n b) = 3 := by omega
              rw [e3] at z0
              have := aHv_sip hA (show tV T n b < 6 by omega) z0
              omega
          · rw [if_neg ok3]
      · rw [if_neg (show ¬ Int32.ofNat (tK T n (tE T n (tE T n b))) = (2 : Int32) from fun q => c ((xv_eq (b := 2) (by omega) (by decide)).mp q))]
        refine no _ ?_
        rw [if_neg (fun q => c (nOk_iff.mp q).1)]
    · refine g_X9_signTold_21 (by decide) ?_
      rw [if_pos rfl, if_neg (by rw [ok2]; decide)]
      exact qSM_no (xsm_trans (xsm_mono (xsm_trans hJ1 hK) sNM_SM) (xsm_mono hM sNM_SM)) (fun _ _ => rfl) m27
  · refine g_X9_signTold_11 (by decide) ?_
    rw [if_pos rfl, if_neg (by rw [ok]; decide)]
    exact qSM_no (xsm_mono (xsm_trans hJ1 hK) sNM_SM) (fun _ _ => rfl) k1
