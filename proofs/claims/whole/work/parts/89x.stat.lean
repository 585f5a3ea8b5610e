/-! promise stair: numbers, words, statements; the class's side -/
theorem dgF_v {T : Nat → Nat} {s : Nat} : ∀ m i v, dgI s i v → (dgF T s m i v).1 ≤ 99 ∨ (dgF T s m i v).1 = 1000
  | 0, i, v, h => by
    show v ≤ 99 ∨ v = 1000
    unfold dgI at h; omega
  | m + 1, i, v, h => by
    show (if isD (T i) = true then dgF T s m (i + 1) (dgN s i v (T i)) else (v, i)).1 ≤ 99 ∨ (if isD (T i) = true then dgF T s m (i + 1) (dgN s i v (T i)) else (v, i)).1 = 1000
    by_cases c : isD (T i) = true
    · rw [if_pos c]; exact dgF_v m _ _ (dgI_s h c)
    · rw [if_neg c]
      show v ≤ 99 ∨ v = 1000
      unfold dgI at h; omega
theorem tV_le (T : Nat → Nat) (n a : Nat) : tV T n a ≤ 99 ∨ tV T n a = 1000 := by
  unfold tV kV
  split
  · exact Or.inl (by decide)
  · split
    · exact Or.inl (by decide)
    · split
      · exact dgF_v _ _ _ (Or.inl ⟨rfl, rfl⟩)
      · exact Or.inl (by decide)
def nOk (T : Nat → Nat) (n a lo hi : Nat) : Bool := decide (tK T n a = 2 ∧ lo ≤ tV T n a ∧ tV T n a ≤ hi)
def sNm : Nat → Nat → Prop := fun o k => o = 61 ∧ (k = 1 ∨ 6 ≤ k)
def qNm (n : Nat) (T : Nat → Nat) (a lo hi : Nat) (J : xI) (L : xL) (z : Bool × Bool × Nat) : xQ := fun r τ => ∃ K, τ = xS K L z ∧ xsm sNm J K ∧ K 61 8 = Int32.ofNat (tS T n a) ∧ ((nOk T n a lo hi = true ∧ r = some (.int (Int32.ofNat (tV T n a))) ∧ K 61 6 = Int32.ofNat (tE T n a)) ∨ (nOk T n a lo hi = false ∧ r = some (.int (-1)) ∧ K 61 1 = Int32.ofNat (tS T n a)))
theorem t_num {n a lo hi : Nat} {T : Nat → Nat} {J : xI} {L : xL} {z : Bool × Bool × Nat} (h : xTpX n T J) (ha : J 61 6 = Int32.ofNat a) (an : a ≤ n) (h1 : lo < 1000) (h2 : hi < 1000) : xCd 3 65 [.ref 61, .int (Int32.ofNat lo), .int (Int32.ofNat hi)] (xS J L z) (qNm n T a lo hi J L z) := by
  refine c_X4_readNumber (d := 2) (g_X4_readNumber_0 (by decide) ?_)
  refine xuse (t_tok h ha an) (by decide) ?_
  rintro _ _ ⟨rfl, K, rfl, hK, k6, k7, k8, k9⟩
  refine g_X4_readNumber_4 (by decide) ?_
  have hK2 : xsm sNm J K := xsm_mono hK (fun o k e => by unfold sTk at e; unfold sNm; omega)
  have no : ¬ (tK T n a = 2 ∧ lo ≤ tV T n a ∧ tV T n a ≤ hi) → qNm n T a lo hi J L z (some (.int (-1))) (xS (xw K 61 1 (K 61 8)) L z) := fun c => ⟨_, rfl, xsm_xw ⟨rfl, Or.inl rfl⟩ hK2, by rw [xw_ne2 (by decide)]; exact k8, Or.inr ⟨decide_eq_false c, rfl, by rw [xw_eq]; exact k8⟩⟩
  rw [k7]
  by_cases c : tK T n a = 2
  · rw [if_pos (show Int32.ofNat (tK T n a) = 2 from by rw [c]; rfl), k9 c]
    have b := tV_le T n a
    unfold cvN
    by_cases d : tV T n a = 1000
    · rw [if_pos d, if_pos (show (-1 : Int32) < Int32.ofNat lo from by
        rw [Int32.lt_iff_toInt_lt, xv_int (by omega), show (-1 : Int32).toInt = -1 from rfl]; omega)]
      exact no (fun q => by omega)
    · rw [if_neg d]
      by_cases e : tV T n a < lo
      · rw [if_pos ((xv_lt (by omega) (by omega)).mpr e)]; exact no (fun q => by omega)
      · rw [if_neg (fun q => e ((xv_lt (by omega) (by omega)).mp q))]
        by_cases f : hi < tV T n a
        · rw [if_pos ((xv_lt (by omega) (by omega)).mpr f)]; exact no (fun q => by omega)
        · rw [if_neg (fun q => f ((xv_lt (by omega) (by omega)).mp q))]
          exact ⟨K, rfl, hK2, k8, Or.inl ⟨decide_eq_true ⟨c, by omega, by omega⟩, rfl, k6⟩⟩
  · have := xv_eq (a := tK T n a) (b := 2) (by unfold tK kK; split <;> (try split) <;> (try split) <;> (try split) <;> decide) (by decide)
    rw [if_neg (show ¬ Int32.ofNat (tK T n a) = (2 : Int32) from fun q => c (this.mp q))]
    exact no (fun q => c q.1)
/-- words -/
def isWd (T : Nat → Nat) (n a : Nat) (w : List Nat) : Bool := decide (tK T n a = 1 ∧ tE T n a - tS T n a = w.length ∧ ∀ i, i < w.length → T (tS T n a + i) = xnth 0 w i)
def xCuX (n : Nat) (T : Nat → Nat) (a : Nat) (K : xI) : Prop := K 61 6 = Int32.ofNat (tE T n a) ∧ K 61 7 = Int32.ofNat (tK T n a) ∧ K 61 8 = Int32.ofNat (tS T n a)
theorem tK_lt (T : Nat → Nat) (n a : Nat) : tK T n a < 5 := by
  unfold tK kK; split <;> (try split) <;> (try split) <;> (try split) <;> decide
theorem t_isToken {n a w : Nat} {T : Nat → Nat} {J : xI} {L : xL} {z : Bool × Bool × Nat} (h : xTpX n T J) (hc : xCuX n T a J) (an : a ≤ n) (hw : Nat.beq (xkind w) 24 = true) (hl : (xtext w).length < 256) (hb : ∀ i, i < (xtext w).length → xnth 0 (xtext w) i < 256) : xCd 2 62 [.ref 61, .ref w] (xS J L z) (qP J L z (if isWd T n a (xtext w) = true then 1 else 0)) := by
  obtain ⟨k6, k7, k8⟩ := hc
  have n250 := h.1
  have te := tE_le (T := T) an
  have tk := tK_lt T n a
  refine c_X4_isToken (d := 1) (g_X4_isToken_0 (by decide) ?_)
  have gd : (Nat.beq (xkind w) 24 && Nat.ble 1 4) = true := by rw [hw]; rfl
  have no : ¬ (tK T n a = 1 ∧ tE T n a - tS T n a = (xtext w).length ∧ ∀ i, i < (xtext w).length → T (tS T n a + i) = xnth 0 (xtext w) i) → qP J L z (if isWd T n a (xtext w) = true then 1 else 0) (some (.int 0)) (xS J L z) := fun c => by
    rw [if_neg (show ¬ isWd T n a (xtext w) = true from fun q => c (of_decide_eq_true q))]; exact ⟨rfl, rfl⟩
  rw [k7]
  by_cases c : tK T n a = 1
  · rw [if_pos (show Int32.ofNat (tK T n a) = 1 from by rw [c]; rfl)]
    refine xbifT gd ?_
    rw [k6, k8, show Int32.ofNat (tE T n a) - Int32.ofNat (tS T n a) = Int32.ofNat (tE T n a - tS T n a) from xv_sub te.1]
    by_cases d : tE T n a - tS T n a = (xtext w).length
    · rw [if_pos (by rw [d])]
      have key : ∀ i, i ≤ (xtext w).length → (∀ j, j < i → T (tS T n a + j) = xnth 0 (xtext w) j) → h_X4_isToken_28 1 (qP J L z (if isWd T n a (xtext w) = true then 1 else 0)) (0, 0) J L z w (Int32.ofNat i) := by
        refine xcount _ (xtext w).length ?_ ?_
        · intro i hi KK hj
          refine g_X4_isToken_28 (by decide) (xbifT gd ?_)
          rw [if_pos ((xv_lt (by omega) (by omega)).mpr hi)]
          refine xbifT gd ?_
          have b1 := h.2.1 (tS T n a + i)
          have b2 := hb i hi
          rw [if_pos ((xv_in (by omega)).mpr hi), k8, xv_add, f_byte h (by omega), xv_clamp (by omega)]
          by_cases e : T (tS T n a + i) = xnth 0 (xtext w) i
          · rw [if_pos (by rw [e]), show Int32.ofNat i + 1 = Int32.ofNat (i + 1) from xv_add i 1]
            refine KK (fun j hj2 => ?_)
            by_cases f : j = i
            · rw [f]; exact e
            · exact hj j (by omega)
          · rw [if_neg (fun q => e ((xv_eq (by omega) (by omega)).mp q))]
            exact no (fun q => e (q.2.2 i hi))
        · intro hj
          refine g_X4_isToken_28 (by decide) (xbifT gd ?_)
          rw [if_neg (fun q => absurd ((xv_lt (by omega) (by omega)).mp q) (Nat.lt_irrefl _))]
          rw [if_pos (show isWd T n a (xtext w) = true from decide_eq_true ⟨c, d, hj⟩)]
          exact ⟨rfl, rfl⟩
      exact key 0 (Nat.zero_le _) (fun j hj => absurd hj (Nat.not_lt_zero _))
    · rw [if_neg (fun q => d ((xv_eq (by omega) (by omega)).mp q))]
      exact no (fun q => d q.2.1)
  · rw [if_neg (show ¬ Int32.ofNat (tK T n a) = (1 : Int32) from fun q => c ((xv_eq (b := 1) (by omega) (by decide)).mp q))]
    exact no (fun q => c q.1)
/-- what a statement comes to: where it fails, or the state and the place behind it -/
abbrev pR : Type := Except Nat (xAb × Nat)
def pCups (T : Nat → Nat) (n : Nat) (A : xAb) (a : Nat) : pR := if nOk T n a 2 6 = true then .ok (ab_lay A (tV T n a) (fun _ => 0) (fun _ => 0), tE T n a) else .error (tS T n a)
def pPour (T : Nat → Nat) (n : Nat) (A : xAb) : Nat → Nat → (Nat → Nat) → pR
  | 0, a, f => .ok (ab_lay A (ab_n A) f f, a)
  | m + 1, a, f => if nOk T n a 0 5 = true then pPour T n A m (tE T n a) (fun j => if j = ab_n A - (m + 1) then tV T n a else f j) else .error (tS T n a)
def pLaw (T : Nat → Nat) (n : Nat) (A : xAb) (a : Nat) : pR := if nOk T n a 0 2 = true then .ok (ab_lawTo A (tV T n a), tE T n a) else .error (tS T n a)
def pSort1 (T : Nat → Nat) (n s : Nat) : Nat → xAb → Nat → pR
  | 0, A, a => .ok (A, a)
  | m + 1, A, a => if nOk T n a 0 9 = true then pSort1 T n s m (ab_sortTo A s (3 - (m + 1)) (tV T n a)) (tE T n a) else .error (tS T n a)
def pSort (T : Nat → Nat) (n : Nat) (A : xAb) (a : Nat) : pR := if nOk T n a 0 5 = true then pSort1 T n (tV T n a) 3 A (tE T n a) else .error (tS T n a)
def pGuest (T : Nat → Nat) (n : Nat) (A : xAb) (a : Nat) : pR :=
  if nOk T n a 0 (ab_n A - 1) = true then
    (if nOk T n (tE T n a) 0 5 = true then
      (if nOk T n (tE T n (tE T n a)) 0 9 = true then .ok (ab_guestTo A (tV T n a) (Int32.ofNat (tV T n (tE T n a))) (tV T n (tE T n (tE T n a))), tE T n (tE T n (tE T n a)))
      else .error (tS T n (tE T n (tE T n a))))
    else .error (tS T n (tE T n a)))
  else .error (tS T n a)
def pSign (T : Nat → Nat) (n : Nat) (A : xAb) (a : Nat) : pR :=
  if nOk T n a 0 (ab_n A - 1) = true then
    (if nOk T n (tE T n a) 0 3 = true then
      (if nOk T n (tE T n (tE T n a)) 0 9 = true then
        (if aHv A (tV T n a) (tV T n (tE T n a)) (tV T n (tE T n (tE T n a))) = 0 then .error (tS T n (tE T n (tE T n a)))
        else .ok (ab_lrn A (tV T n a) (tV T n (tE T n a)) (tV T n (tE T n (tE T n a))), tE T n (tE T n (tE T n a))))
      else .error (tS T n (tE T n (tE T n a))))
    else .error (tS T n (tE T n a)))
  else .error (tS T n a)
def pStm (T : Nat → Nat) (n : Nat) (A : xAb) (a : Nat) : pR :=
  if isWd T n a (xtext 3) = true then pCups T n A (tE T n a)
  else if isWd T n a (xtext 4) = true then pPour T n A (ab_n A) (tE T n a) (fun _ => 0)
  else if isWd T n a (xtext 5) = true then pLaw T n A (tE T n a)
  else if isWd T n a (xtext 6) = true then pSort T n A (tE T n a)
  else if isWd T n a (xtext 7) = true then pGuest T n A (tE T n a)
  else if isWd T n a (xtext 8) = true then pSign T n A (tE T n a)
  else .error (tS T n a)
theorem nOk_iff {T : Nat → Nat} {n a lo hi : Nat} : nOk T n a lo hi = true ↔ (tK T n a = 2 ∧ lo ≤ tV T n a ∧ tV T n a ≤ hi) := decide_eq_true_iff
/-- the class at a place of the tape -/
def xStX (n : Nat) (T : Nat → Nat) (A : xAb) (J : xI) : Prop := xTpX n T J ∧ abOK A ∧ xTX J 10 A ∧ xCache A J ∧ xShf J
def sSt : Nat → Nat → Prop := fun o k => (10 ≤ o ∧ o ≤ 18) ∨ (37 ≤ o ∧ o ≤ 42) ∨ (o = 61 ∧ (k = 1 ∨ 6 ≤ k)) ∨ o = 63
def qSt (n : Nat) (T : Nat → Nat) (R : pR) (J : xI) (L : xL) (z : Bool × Bool × Nat) : xQ := fun r τ => ∃ K, τ = xS K L z ∧ xsm sSt J K ∧ match R with
  | .ok (B, e) => r = some (.int 1) ∧ xStX n T B K ∧ K 61 6 = Int32.ofNat e
  | .error f => r = some (.int 0) ∧ K 61 1 = Int32.ofNat f
theorem sNm_St : ∀ o k, sNm o k → sSt o k := fun o k e => by unfold sNm at e; unfold sSt; omega
theorem xStX_nm {n : Nat} {T : Nat → Nat} {A : xAb} {J K : xI} (hK : xsm sNm J K) (h : xStX n T A J) : xStX n T A K :=
  ⟨xTpX_sm hK (by unfold sNm; omega) (fun k => by unfold sNm; omega) h.1, h.2.1, xTX_sm hK (fun k hk => by unfold sNm; omega) (fun o a b k => by unfold sNm; omega) h.2.2.1, xCache_sm hK (fun o k e => by unfold sNm at e; unfold noC; omega) h.2.2.2.1, xShf_sm hK (fun k => by unfold sNm; omega) h.2.2.2.2⟩
theorem xStX_tp {n : Nat} {T : Nat → Nat} {J K : xI} (hK : xsm sSt J K) (h : xTpX n T J) : xTpX n T K := xTpX_sm hK (by unfold sSt; omega) (fun k => by unfold sSt; omega) h
theorem xStX_sh {J K : xI} (hK : xsm sSt J K) (h : xShf J) : xShf K := xShf_sm hK (fun k => by unfold sSt; omega) h
theorem qSt_no {n f : Nat} {T : Nat → Nat} {J K : xI} {L : xL} {z : Bool × Bool × Nat} (hK : xsm sSt J K) (h : K 61 1 = Int32.ofNat f) : qSt n T (.error f) J L z (some (.int 0)) (xS K L z) := ⟨K, rfl, hK, rfl, h⟩
theorem qSt_ok {n e : Nat} {T : Nat → Nat} {B : xAb} {J K : xI} {L : xL} {z : Bool × Bool × Nat} (hK : xsm sSt J K) (hp : xTpX n T J) (hs : xShf J) (hB : abOK B) (hX : xTX K 10 B) (hc : xCache B K) (h : K 61 6 = Int32.ofNat e) : qSt n T (.ok (B, e)) J L z (some (.int 1)) (xS K L z) := ⟨K, rfl, hK, rfl, ⟨xStX_tp hK hp, hB, hX, hc, xStX_sh hK hs⟩, h⟩
/-- cups are laid -/
theorem t_layCups {A : xAb} {n : Nat} {I : xI} {L : xL} {z : Bool × Bool × Nat} (hX : xTX I 10 A) : xCd 3 87 [.ref 10, .int (Int32.ofNat n)] (xS I L z) (qN (fun o _ => 10 ≤ o ∧ o ≤ 12) I L z (fun K => xTX K 10 (ab_lay A n (fun _ => 0) (fun _ => 0)) ∧ K 10 5 = 1)) := by
  refine c_X6_layCups (d := 2) (g_X6_layCups_0 (by decide) ?_)
  refine xuse (s_J7_fill (n := 6) rfl rfl rfl rfl (by decide)) (by decide) ?_
  rintro _ _ ⟨rfl, rfl⟩
  refine g_X6_layCups_13 (by decide) ?_
  refine xuse (s_J7_fill (n := 6) rfl rfl rfl rfl (by decide)) (by decide) ?_
  rintro _ _ ⟨rfl, rfl⟩
  refine g_X6_layCups_21 (by decide) ?_
  have g : ∀ o, o ≠ 10 → o ≠ 11 → o ≠ 12 → ∀ k, (xw (xw (xw (xfil (xfil (xw I 10 0 (Int32.ofNat n)) 11 6 0) 12 6 0) 10 5 1) 10 3 0) 10 6 1) o k = I o k := by
    intro o a b d k
    rw [xw_ne1 a, xw_ne1 a, xw_ne1 a]
    unfold xfil
    rw [if_neg (fun q => d q.1), if_neg (fun q => b q.1), xw_ne1 a]
  have g10 : ∀ k, k ≠ 0 → k ≠ 3 → k ≠ 5 → k ≠ 6 → (xw (xw (xw (xfil (xfil (xw I 10 0 (Int32.ofNat n)) 11 6 0) 12 6 0) 10 5 1) 10 3 0) 10 6 1) 10 k = I 10 k := by
    intro k a b d e
    rw [xw_ne2 e, xw_ne2 b, xw_ne2 d]
    unfold xfil
    rw [if_neg (fun q => absurd q.1 (by decide)), if_neg (fun q => absurd q.1 (by decide)), xw_ne2 a]
  refine ⟨rfl, _, rfl, ?_, ?_, ?_⟩
  · intro o k hs
    exact g o (by omega) (by omega) (by omega) k
  · refine xTX_lay hX ?_ (g10 1 (by decide) (by decide) (by decide) (by decide)) (g10 2 (by decide) (by decide) (by decide) (by decide)) (by rw [xw_ne2 (by decide), xw_eq]) (g10 4 (by decide) (by decide) (by decide) (by decide)) ?_ ?_ (fun o ho k => g o (by omega) (by omega) (by omega) k)
    · rw [xw_ne2 (by decide), xw_ne2 (by decide), xw_ne2 (by decide)]
      unfold xfil
      rw [if_neg (fun q => absurd q.1 (by decide)), if_neg (fun q => absurd q.1 (by decide)), xw_eq]
    · intro k hk
      rw [xw_ne1 (by decide), xw_ne1 (by decide), xw_ne1 (by decide)]
      unfold xfil
      rw [if_neg (fun q => absurd q.1 (by decide)), if_pos ⟨rfl, hk⟩]; rfl
    · intro k hk
      rw [xw_ne1 (by decide), xw_ne1 (by decide), xw_ne1 (by decide)]
      unfold xfil
      rw [if_pos ⟨rfl, hk⟩]; rfl
  · rw [xw_ne2 (by decide), xw_ne2 (by decide), xw_eq]
theorem nm_v {x : Nat} (h : x ≤ 99) : ¬ Int32.ofNat x = (-1 : Int32) := fun q => by
  rw [show (-1 : Int32) = -(Int32.ofNat 1) from rfl, xv_m1 (by omega) (by decide) (by decide)] at q
  exact q
theorem t_cupsX {n a : Nat} {T : Nat → Nat} {A : xAb} {J : xI} {L : xL} {z : Bool × Bool × Nat} (h : xStX n T A J) (ha : J 61 6 = Int32.ofNat a) (an : a ≤ n) : xCd 5 66 [.ref 61] (xS J L z) (qSt n T (pCups T n A a) J L z) := by
  refine c_X4_readCups (d := 4) (g_X4_readCups_0 (by decide) ?_)
  refine xuse (t_num (lo := 2) (hi := 6) h.1 ha an (by decide) (by decide)) (by decide) ?_
  rintro _ _ ⟨K, rfl, hK, k8, ⟨ok, rfl, k6⟩ | ⟨ok, rfl, k1⟩⟩
  · refine g_X4_readCups_7 (by decide) ?_
    have v := nOk_iff.mp ok
    have hK' := xStX_nm hK h
    rw [if_neg (nm_v (by omega))]
    refine xuse (t_layCups hK'.2.2.1) (by decide) ?_
    rintro _ _ ⟨rfl, M, rfl, hM, mX, m5⟩
    refine g_X4_readCups_23 (by decide) ?_
    unfold pCups
    rw [if_pos ok]
    refine qSt_ok (xsm_trans (xsm_mono hK sNm_St) (xsm_mono hM (fun o k e => by unfold sSt; omega))) h.1 h.2.2.2.2 (abOK_lay h.2.1 (by omega) (fun _ _ => by decide) (fun _ _ => by decide) (fun _ _ _ => ⟨rfl, rfl⟩)) mX (Or.inl m5) ((hM 61 6 (by omega)).trans k6)
  · refine g_X4_readCups_7 (by decide) ?_
    rw [if_pos rfl]
    unfold pCups
    rw [if_neg (by rw [ok]; decide)]
    exact qSt_no (xsm_mono hK sNm_St) k1
theorem t_lawX {n a : Nat} {T : Nat → Nat} {A : xAb} {J : xI} {L : xL} {z : Bool × Bool × Nat} (h : xStX n T A J) (ha : J 61 6 = Int32.ofNat a) (an : a ≤ n) : xCd 5 68 [.ref 61] (xS J L z) (qSt n T (pLaw T n A a) J L z) := by
  refine c_X4_readLaw (d := 4) (g_X4_readLaw_0 (by decide) ?_)
  refine xuse (t_num (lo := 0) (hi := 2) h.1 ha an (by decide) (by decide)) (by decide) ?_
  rintro _ _ ⟨K, rfl, hK, k8, ⟨ok, rfl, k6⟩ | ⟨ok, rfl, k1⟩⟩
  · refine g_X4_readLaw_6 (by decide) ?_
    have v := nOk_iff.mp ok
    have hK' := xStX_nm hK h
    rw [if_neg (nm_v (by omega))]
    unfold pLaw
    rw [if_pos ok]
    have hA := h.2.1
    refine qSt_ok (xsm_xw (by unfold sSt; omega) (xsm_xw (by unfold sSt; omega) (xsm_mono hK sNm_St))) h.1 h.2.2.2.2 ⟨hA.1, v.2.2, hA.2.2⟩ (xTX_old (by decide) (xTX_law hK'.2.2.1)) (Or.inl (xw_eq _ _ _ _)) ?_
    rw [xw_ne1 (by decide), xw_ne1 (by decide)]; exact k6
  · refine g_X4_readLaw_6 (by decide) ?_
    rw [if_pos rfl]
    unfold pLaw
    rw [if_neg (by rw [ok]; decide)]
    exact qSt_no (xsm_mono hK sNm_St) k1
theorem abOK_sort {A : xAb} {s l v : Nat} (hA : abOK A) (hv : v < 10) : abOK (ab_sortTo A s l v) := by
  obtain ⟨a, b, c, d, e, f, g⟩ := hA
  refine ⟨a, b, c, d, e, fun s' hs' l' hl' => ?_, g⟩
  show (if s' = s ∧ l' = l then v else ab_mark A s' l') < 10
  split
  · exact hv
  · exact f s' hs' l' hl'
theorem t_sortX {n a : Nat} {T : Nat → Nat} {A : xAb} {J : xI} {L : xL} {z : Bool × Bool × Nat} (h : xStX n T A J) (ha : J 61 6 = Int32.ofNat a) (an : a ≤ n) : xCd 5 69 [.ref 61] (xS J L z) (qSt n T (pSort T n A a) J L z) := by
  refine c_X4_readSort (d := 4) (g_X4_readSort_0 (by decide) ?_)
  refine xuse (t_num (lo := 0) (hi := 5) h.1 ha an (by decide) (by decide)) (by decide) ?_
  rintro _ _ ⟨K, rfl, hK, k8, ⟨ok, rfl, k6⟩ | ⟨ok, rfl, k1⟩⟩
  · refine g_X4_readSort_6 (by decide) ?_
    have v := nOk_iff.mp ok
    rw [if_neg (nm_v (by omega))]
    unfold pSort
    rw [if_pos ok]
    generalize tV T n a = s at *
    have key : ∀ m, m ≤ 3 → ∀ (B : xAb) (e : Nat) (M : xI), xsm sSt J M → xStX n T B M → M 61 6 = Int32.ofNat e → e ≤ n → h_X4_readSort_16 4 (qSt n T (pSort1 T n s m B e) J L z) (0, 0) M L z (Int32.ofNat s) (Int32.ofNat (3 - m)) := by
      intro m
      induction m with
      | zero =>
        intro _ B e M hM hB h6 en
        refine g_X4_readSort_16 (by decide) ?_
        rw [if_neg (by decide)]
        exact ⟨M, rfl, hM, rfl, hB, h6⟩
      | succ m ih =>
        intro hm B e M hM hB h6 en
        refine g_X4_readSort_16 (by decide) ?_
        rw [if_pos (show Int32.ofNat (3 - (m + 1)) < (3 : Int32) from (xv_lt (b := 3) (by omega) (by decide)).mpr (by omega))]
        have te := tE_le (T := T) en
        refine xuse (t_num (lo := 0) (hi := 9) hB.1 h6 en (by decide) (by decide)) (by decide) ?_
        have st : pSort1 T n s (m + 1) B e = if nOk T n e 0 9 = true then pSort1 T n s m (ab_sortTo B s (3 - (m + 1)) (tV T n e)) (tE T n e) else .error (tS T n e) := rfl
        rw [st]
        rintro _ _ ⟨P, rfl, hP, _, ⟨ok2, rfl, p6⟩ | ⟨ok2, rfl, p1⟩⟩
        · refine g_X4_readSort_28 (by decide) ?_
          have w := nOk_iff.mp ok2
          have hP' := xStX_nm hP hB
          rw [if_pos ok2, if_neg (nm_v (by omega))]
          rw [show Int32.ofNat s * 3 = Int32.ofNat (s * 3) from xv_mul s 3, xv_add, if_neg (xv_neg (by omega)), if_pos (show Int32.ofNat (s * 3 + (3 - (m + 1))) < (18 : Int32) from (xv_lt (b := 18) (by omega) (by decide)).mpr (by omega)), if_pos ((xv_in (by omega)).mpr (by omega)), xv_clamp (by omega), show Int32.ofNat (3 - (m + 1)) + 1 = Int32.ofNat (3 - (m + 1) + 1) from xv_add _ 1, show 3 - (m + 1) + 1 = 3 - m from by omega]
          have hQ : xsm sSt J (xw (xw P 13 (s * 3 + (3 - (m + 1))) (Int32.ofNat (tV T n e))) 10 6 1) := xsm_xw (by unfold sSt; omega) (xsm_xw (by unfold sSt; omega) (xsm_trans hM (xsm_mono hP sNm_St)))
          refine ih (by omega) _ _ _ hQ ⟨xStX_tp hQ h.1, abOK_sort hP'.2.1 (by omega), xTX_old (by decide) (xTX_sort (t := 10) (by omega) hP'.2.2.1), ?_, xStX_sh hQ h.2.2.2.2⟩ ?_ te.2.1
          · refine xCache_pos hP'.2.2.2.1 (aW_eq rfl rfl rfl) ?_ (xw_eq _ _ _ _) ?_
            · rw [xw_ne2 (by decide), xw_ne1 (by decide)]
            · intro o ho k
              rw [xw_ne1 (by omega), xw_ne1 (by omega)]
          · rw [xw_ne1 (by decide), xw_ne1 (by decide)]; exact p6
        · refine g_X4_readSort_28 (by decide) ?_
          rw [if_pos rfl, if_neg (by rw [ok2]; decide)]
          exact qSt_no (xsm_trans hM (xsm_mono hP sNm_St)) p1
    exact key 3 (by decide) A (tE T n a) K (xsm_mono hK sNm_St) (xStX_nm hK h) k6 (tE_le an).2.1
  · refine g_X4_readSort_6 (by decide) ?_
    rw [if_pos rfl]
    unfold pSort
    rw [if_neg (by rw [ok]; decide)]
    exact qSt_no (xsm_mono hK sNm_St) k1
theorem abOK_guest {A : xAb} {g w v : Nat} (hA : abOK A) (hw : w < 6) (hv : v < 10) : abOK (ab_guestTo A g (Int32.ofNat w) v) := by
  obtain ⟨a, b, c, d, e, f, g1, g2, g3⟩ := hA
  refine ⟨a, b, c, d, e, f, fun k hk => ?_, fun k hk => ?_, g3⟩
  · show (if k = g then Int32.ofNat w else ab_want A k) = -1 ∨ _
    by_cases q : k = g
    · exact Or.inr ⟨w, hw, if_pos q⟩
    · rw [if_neg q]
      rcases g1 k hk with r | ⟨x, y, r⟩
      · exact Or.inl r
      · exact Or.inr ⟨x, y, (if_neg q).trans r⟩
  · show (if k = g then v else ab_mind A k) < 10
    split
    · exact hv
    · exact g2 k hk
theorem t_guestX {n a : Nat} {T : Nat → Nat} {A : xAb} {J : xI} {L : xL} {z : Bool × Bool × Nat} (h : xStX n T A J) (ha : J 61 6 = Int32.ofNat a) (an : a ≤ n) : xCd 5 70 [.ref 61] (xS J L z) (qSt n T (pGuest T n A a) J L z) := by
  refine c_X4_readGuest (d := 4) (g_X4_readGuest_0 (by decide) ?_)
  have hA := h.2.1
  have h6 := hA.1.2
  have h2 := hA.1.1
  have hn : J 10 0 = Int32.ofNat (ab_n A) := h.2.2.1.1.1
  have t1 := tE_le (T := T) an
  have t2 := tE_le (T := T) t1.2.1
  rw [hn, show Int32.ofNat (ab_n A) - 1 = Int32.ofNat (ab_n A - 1) from xv_sub (b := 1) (by omega)]
  refine xuse (t_num (lo := 0) (hi := ab_n A - 1) h.1 ha an (by decide) (by omega)) (by decide) ?_
  unfold pGuest
  rintro _ _ ⟨K, rfl, hK, _, ⟨ok, rfl, k6⟩ | ⟨ok, rfl, k1⟩⟩
  · refine g_X4_readGuest_14 (by decide) ?_
    have v := nOk_iff.mp ok
    have hK' := xStX_nm hK h
    rw [if_pos ok, if_neg (nm_v (by omega))]
    refine xuse (t_num (lo := 0) (hi := 5) hK'.1 k6 t1.2.1 (by decide) (by decide)) (by decide) ?_
    rintro _ _ ⟨M, rfl, hM, _, ⟨ok2, rfl, m6⟩ | ⟨ok2, rfl, m1⟩⟩
    · refine g_X4_readGuest_30 (by decide) ?_
      have v2 := nOk_iff.mp ok2
      have hM' := xStX_nm hM hK'
      rw [if_pos ok2, if_neg (nm_v (by omega))]
      refine xuse (t_num (lo := 0) (hi := 9) hM'.1 m6 t2.2.1 (by decide) (by decide)) (by decide) ?_
      rintro _ _ ⟨P, rfl, hP, _, ⟨ok3, rfl, p6⟩ | ⟨ok3, rfl, p1⟩⟩
      · refine g_X4_readGuest_47 (by decide) ?_
        have v3 := nOk_iff.mp ok3
        have hP' := xStX_nm hP hM'
        rw [if_pos ok3, if_neg (nm_v (by omega)), if_pos ((xp_hasPlace hP'.2.2.1.1.1 h6).mpr (by rw [xv_int (by omega)]; omega)), if_pos ((xv_in (by omega)).mpr (by omega)), xv_clamp (by omega)]
        refine qSt_ok (xsm_xw (by unfold sSt; omega) (xsm_xw (by unfold sSt; omega) (xsm_trans (xsm_mono hK sNm_St) (xsm_trans (xsm_mono hM sNm_St) (xsm_mono hP sNm_St))))) h.1 h.2.2.2.2 (abOK_guest hA (by omega) (by omega)) (xTX_guest (t := 10) hP'.2.2.1) ?_ ?_
        · refine xCache_fr hP'.2.2.2.1 (aW_eq rfl rfl rfl) (aP_eq (aW_eq rfl rfl rfl) rfl rfl) rfl ?_ ?_ ?_
          · rw [xw_ne1 (by decide), xw_ne1 (by decide)]
          · rw [xw_ne1 (by decide), xw_ne1 (by decide)]
          · intro o ho k; rw [xw_ne1 (by omega), xw_ne1 (by omega)]
        · rw [xw_ne1 (by decide), xw_ne1 (by decide)]; exact p6
      · refine g_X4_readGuest_47 (by decide) ?_
        rw [if_pos rfl, if_neg (by rw [ok3]; decide)]
        exact qSt_no (xsm_trans (xsm_mono hK sNm_St) (xsm_trans (xsm_mono hM sNm_St) (xsm_mono hP sNm_St))) p1
    · refine g_X4_readGuest_30 (by decide) ?_
      rw [if_pos rfl, if_neg (by rw [ok2]; decide)]
      refine g_X4_readGuest_47 (by decide) ?_
      rw [if_pos rfl]
      exact qSt_no (xsm_trans (xsm_mono hK sNm_St) (xsm_mono hM sNm_St)) m1
  · refine g_X4_readGuest_14 (by decide) ?_
    rw [if_pos rfl, if_neg (by rw [ok]; decide)]
    refine g_X4_readGuest_30 (by decide) ?_
    rw [if_pos rfl]
    refine g_X4_readGuest_47 (by decide) ?_
    rw [if_pos rfl]
    exact qSt_no (xsm_mono hK sNm_St) k1
theorem aHv_sip {A : xAb} {p v : Nat} (hA : abOK A) (hp : p < 6) (h : aHv A p 3 v ≠ 0) : v < 6 := by
  have : 0 < aHv A p 3 v := by omega
  unfold aHv at this
  obtain ⟨w, hw, hq⟩ := List.countP_pos_iff.mp this
  have q := of_decide_eq_true hq
  have wl := (aW_wd hA (aP_mem.mp hw).1 hp).1
  have e : aNum A 3 (wd w p) = wd w p := if_pos rfl
  rw [e] at q
  omega
theorem t_signX {n a : Nat} {T : Nat → Nat} {A : xAb} {J : xI} {L : xL} {z : Bool × Bool × Nat} (h : xStX n T A J) (ha : J 61 6 = Int32.ofNat a) (an : a ≤ n) : xCd 5 71 [.ref 61] (xS J L z) (qSt n T (pSign T n A a) J L z) := by
  refine c_X4_readSign (d := 4) (g_X4_readSign_0 (by decide) ?_)
  have hA := h.2.1
  have h6 := hA.1.2
  have h2 := hA.1.1
  have hn : J 10 0 = Int32.ofNat (ab_n A) := h.2.2.1.1.1
  have t1 := tE_le (T := T) an
  have t2 := tE_le (T := T) t1.2.1
  rw [hn, show Int32.ofNat (ab_n A) - 1 = Int32.ofNat (ab_n A - 1) from xv_sub (b := 1) (by omega)]
  refine xuse (t_num (lo := 0) (hi := ab_n A - 1) h.1 ha an (by decide) (by omega)) (by decide) ?_
  unfold pSign
  rintro _ _ ⟨K, rfl, hK, _, ⟨ok, rfl, k6⟩ | ⟨ok, rfl, k1⟩⟩
  · refine g_X4_readSign_19 (by decide) ?_
    have v := nOk_iff.mp ok
    have hK' := xStX_nm hK h
    rw [if_pos ok, if_neg (nm_v (by omega))]
    refine xuse (t_num (lo := 0) (hi := 3) hK'.1 k6 t1.2.1 (by decide) (by decide)) (by decide) ?_
    rintro _ _ ⟨M, rfl, hM, _, ⟨ok2, rfl, m6⟩ | ⟨ok2, rfl, m1⟩⟩
    · refine g_X4_readSign_35 (by decide) ?_
      have v2 := nOk_iff.mp ok2
      have hM' := xStX_nm hM hK'
      rw [if_pos ok2, if_neg (nm_v (by omega))]
      refine xuse (t_num (lo := 0) (hi := 9) hM'.1 m6 t2.2.1 (by decide) (by decide)) (by decide) ?_
      rintro _ _ ⟨P, rfl, hP, p8, ⟨ok3, rfl, p6⟩ | ⟨ok3, rfl, p1⟩⟩
      · refine g_X4_readSign_52 (by decide) ?_
        have v3 := nOk_iff.mp ok3
        have hP' := xStX_nm hP hM'
        have hJP : xsm sSt J P := xsm_trans (xsm_mono hK sNm_St) (xsm_trans (xsm_mono hM sNm_St) (xsm_mono hP sNm_St))
        rw [if_pos ok3, if_neg (nm_v (by omega))]
        refine xuse (t_refresh hA hP'.2.2.1 hP'.2.2.2.2 hP'.2.2.2.1) (by decide) ?_
        rintro _ _ ⟨rfl, Q, rfl, hQ, hF⟩
        refine g_X4_readSign_69 (by decide) ?_
        have qX := xTX_W hQ hP'.2.2.1
        refine xuse (t_howManyHave hA qX hF.2.2.2 (show tV T n a < ab_n A by omega) (show tV T n (tE T n a) < 4 by omega) (show tV T n (tE T n (tE T n a)) < 2147483648 by omega)) (by decide) ?_
        rintro _ _ ⟨rfl, rfl⟩
        refine g_X4_readSign_80 (by decide) ?_
        have hJQ : xsm sSt J Q := xsm_trans hJP (xsm_mono hQ (fun o k e => by unfold scrW at e; unfold sSt; omega))
        have q8 : Q 61 8 = Int32.ofNat (tS T n (tE T n (tE T n a))) := (hQ 61 8 (by unfold scrW; omega)).trans p8
        have hl := aP_len hA
        have hb := aHv_le A (tV T n a) (tV T n (tE T n a)) (tV T n (tE T n (tE T n a)))
        by_cases z0 : aHv A (tV T n a) (tV T n (tE T n a)) (tV T n (tE T n (tE T n a))) = 0
        · rw [z0, if_pos (show Int32.ofNat 0 = (0 : Int32) from rfl), if_pos rfl]
          refine xbifT (show xbool 0 = true from rfl) ?_
          exact qSt_no (xsm_xw (by unfold sSt; omega) hJQ) (by rw [xw_eq]; exact q8)
        · rw [if_neg (show ¬ Int32.ofNat (aHv A (tV T n a) (tV T n (tE T n a)) (tV T n (tE T n (tE T n a)))) = (0 : Int32) from fun q => z0 ((xv_eq (b := 0) (by omega) (by decide)).mp q)), if_neg z0]
          have h3 : tV T n (tE T n a) = 3 → tV T n (tE T n (tE T n a)) < 6 := fun e => by
            rw [e] at z0
            exact aHv_sip hA (by omega) z0
          refine xuse (t_learn hA qX (show tV T n a < ab_n A by omega) (show tV T n (tE T n a) < 4 by omega) (show tV T n (tE T n (tE T n a)) < 10 by omega) h3) (by decide) ?_
          rintro _ _ ⟨rfl, R, rfl, hR, rX, rC⟩
          refine g_X4_readSign_103 (by decide) ?_
          rw [if_neg (by decide)]
          refine qSt_ok (xsm_trans hJQ (xsm_mono hR (fun o k e => by unfold scrLn at e; unfold sSt; omega))) h.1 h.2.2.2.2 (lrn_OK hA (by omega) (by omega) (by omega) h3) rX (rC (xCache_of hF)) ?_
          exact (hR 61 6 (by unfold scrLn; omega)).trans ((hQ 61 6 (by unfold scrW; omega)).trans p6)
      · refine g_X4_readSign_52 (by decide) ?_
        rw [if_pos rfl, if_neg (by rw [ok3]; decide)]
        exact qSt_no (xsm_trans (xsm_mono hK sNm_St) (xsm_trans (xsm_mono hM sNm_St) (xsm_mono hP sNm_St))) p1
    · refine g_X4_readSign_35 (by decide) ?_
      rw [if_pos rfl, if_neg (by rw [ok2]; decide)]
      refine g_X4_readSign_52 (by decide) ?_
      rw [if_pos rfl]
      exact qSt_no (xsm_trans (xsm_mono hK sNm_St) (xsm_mono hM sNm_St)) m1
  · refine g_X4_readSign_19 (by decide) ?_
    rw [if_pos rfl, if_neg (by rw [ok]; decide)]
    refine g_X4_readSign_35 (by decide) ?_
    rw [if_pos rfl]
    refine g_X4_readSign_52 (by decide) ?_
    rw [if_pos rfl]
    exact qSt_no (xsm_mono hK sNm_St) k1
theorem t_pourX63 {n : Nat} {I : xI} {L : xL} {z : Bool × Bool × Nat} {f : Nat → Nat} (hn : I 10 0 = Int32.ofNat n) (n6 : n ≤ 6) (h63 : ∀ i, i < n → I 63 i = Int32.ofNat (f i)) (f0 : ∀ i, n ≤ i → f i = 0) : xCd 2 88 [.ref 10, .ref 63] (xS I L z) (qN (fun o k => o = 11 ∨ o = 12 ∨ (o = 10 ∧ (k = 3 ∨ k = 5 ∨ k = 6))) I L z (fun J => J 10 3 = 0 ∧ J 10 5 = 1 ∧ J 10 6 = 1 ∧ ∀ i, i < 6 → J 11 i = Int32.ofNat (f i) ∧ J 12 i = Int32.ofNat (f i))) := by
  refine c_X6_pourRow (d := 1) (g_X6_pourRow_0 (by decide) ?_)
  have key : ∀ i, i ≤ 6 → ∀ J : xI, xsm (fun o _ => o = 11 ∨ o = 12) I J → (∀ j, j < i → J 11 j = Int32.ofNat (f j) ∧ J 12 j = Int32.ofNat (f j)) → h_X6_pourRow_2 1 (qN (fun o k => o = 11 ∨ o = 12 ∨ (o = 10 ∧ (k = 3 ∨ k = 5 ∨ k = 6))) I L z (fun J => J 10 3 = 0 ∧ J 10 5 = 1 ∧ J 10 6 = 1 ∧ ∀ i, i < 6 → J 11 i = Int32.ofNat (f i) ∧ J 12 i = Int32.ofNat (f i))) (0, 0) J L z 63 (Int32.ofNat i) := by
    refine xcount _ 6 ?_ ?_
    · intro i hi KK J hJ hj
      refine g_X6_pourRow_2 (by decide) ?_
      have jn : J 10 0 = Int32.ofNat n := (hJ 10 0 (by omega)).trans hn
      rw [if_pos (show Int32.ofNat i < (6 : Int32) from (xv_lt (b := 6) (by omega) (by decide)).mpr hi)]
      refine xbifT (show (xalive (112, bif z.1 then 158 else 112, bif z.2.1 then 204 else 158) 63 && Nat.ble 20 (xkind 63) && !(Nat.beq (xkind 63) 24)) = true from rfl) ?_
      rw [show Int32.ofNat (xlen z.2.2 63) = Int32.ofNat 6 from rfl, if_pos ((xv_lt (by omega) (by omega)).mpr hi)]
      have nx : ∀ w : Int32, w = Int32.ofNat (f i) → h_X6_pourRow_2 1 (qN (fun o k => o = 11 ∨ o = 12 ∨ (o = 10 ∧ (k = 3 ∨ k = 5 ∨ k = 6))) I L z (fun J => J 10 3 = 0 ∧ J 10 5 = 1 ∧ J 10 6 = 1 ∧ ∀ i, i < 6 → J 11 i = Int32.ofNat (f i) ∧ J 12 i = Int32.ofNat (f i))) (0, 0) (xw (xw J 11 i w) 12 i w) L z 63 (Int32.ofNat i + 1) := by
        intro w hw
        rw [show Int32.ofNat i + 1 = Int32.ofNat (i + 1) from xv_add i 1]
        refine KK _ (xsm_xw (by omega) (xsm_xw (by omega) hJ)) ?_
        intro j hj2
        rw [xw_ne1 (o := 12) (o' := 11) (by decide)]
        by_cases d : j = i
        · rw [d, xw_eq, xw_eq]; exact ⟨hw, hw⟩
        · rw [xw_ne2 d, xw_ne2 d, xw_ne1 (o := 11) (o' := 12) (by decide)]; exact hj j (by omega)
      by_cases c : i < n
      · rw [if_pos ((xp_hasPlace jn n6).mpr (by rw [xv_int (by omega)]; omega))]
        refine xbifT (show xisi (xS J L z) 63 = true from rfl) ?_
        rw [show xlen z.2.2 63 = 6 from rfl, if_pos ((xv_in (by omega)).mpr hi), if_pos ((xv_in (by omega)).mpr hi)]
        simp only [xv_clamp (show i < 2147483648 by omega)]
        exact nx _ (by rw [hJ 63 i (by omega)]; exact h63 i c)
      · rw [if_neg (fun q => by have := (xp_hasPlace jn n6).mp q; rw [xv_int (by omega)] at this; omega), if_pos ((xv_in (by omega)).mpr hi)]
        simp only [xv_clamp (show i < 2147483648 by omega)]
        exact nx _ (by rw [f0 i (by omega)]; rfl)
    · intro J hJ hj
      refine g_X6_pourRow_2 (by decide) ?_
      rw [if_neg (by decide)]
      refine ⟨rfl, _, rfl, ?_, ?_, ?_, ?_, ?_⟩
      · exact xsm_xw (by omega) (xsm_xw (by omega) (xsm_xw (by omega) (xsm_mono hJ (fun o k e => by omega))))
      · rw [xw_ne2 (by decide), xw_eq]
      · rw [xw_ne2 (by decide), xw_ne2 (by decide), xw_eq]
      · rw [xw_eq]
      · intro i hi
        rw [xw_ne1 (by decide), xw_ne1 (by decide), xw_ne1 (by decide), xw_ne1 (by decide), xw_ne1 (by decide), xw_ne1 (by decide)]
        exact hj i hi
  exact key 0 (by decide) I (xsm_refl _ _) (fun j hj => absurd hj (Nat.not_lt_zero _))
theorem t_pourTX {n a : Nat} {T : Nat → Nat} {A : xAb} {J : xI} {L : xL} {z : Bool × Bool × Nat} (h : xStX n T A J) (ha : J 61 6 = Int32.ofNat a) (an : a ≤ n) : xCd 5 67 [.ref 61] (xS J L z) (qSt n T (pPour T n A (ab_n A) a (fun _ => 0)) J L z) := by
  refine c_X4_readPour (d := 4) (g_X4_readPour_0 (by decide) ?_)
  have hA := h.2.1
  have h6 := hA.1.2
  have nS : ∀ o k, (sNm o k ∨ o = 63) → sSt o k := fun o k e => by unfold sNm at e; unfold sSt; omega
  have key : ∀ m, m ≤ ab_n A → ∀ (e : Nat) (f : Nat → Nat) (M : xI), xsm (fun o k => sNm o k ∨ o = 63) J M → M 61 6 = Int32.ofNat e → e ≤ n → (∀ j, j < ab_n A - m → M 63 j = Int32.ofNat (f j)) → (∀ j, f j < 6) → (∀ j, ab_n A - m ≤ j → f j = 0) → h_X4_readPour_2 4 (qSt n T (pPour T n A m e f) J L z) (0, 0) M L z (Int32.ofNat (ab_n A - m)) := by
    intro m
    induction m with
    | zero =>
      intro _ e f M hM m6 en m63 f6 f0
      refine g_X4_readPour_2 (by decide) ?_
      have mn : M 10 0 = Int32.ofNat (ab_n A) := (hM 10 0 (by unfold sNm; omega)).trans h.2.2.1.1.1
      rw [mn, if_neg (fun q => absurd ((xv_lt (by omega) (by omega)).mp q) (by omega))]
      refine xuse (t_pourX63 (f := f) mn h6 m63 f0) (by decide) ?_
      rintro _ _ ⟨rfl, P, rfl, hP, p3, p5, p6, pf⟩
      refine g_X4_readPour_60 (by decide) ?_
      have mX : xTX M 10 A := xTX_sm hM (fun k hk => by unfold sNm; omega) (fun o a b k => by unfold sNm; omega) h.2.2.1
      refine qSt_ok (xsm_trans (xsm_mono hM nS) (xsm_mono hP (fun o k e => by unfold sSt; omega))) h.1 h.2.2.2.2 (abOK_lay hA hA.1 (fun k _ => f6 k) (fun k _ => f6 k) (fun k hk _ => ⟨f0 k (by omega), f0 k (by omega)⟩)) ?_ (Or.inl p5) ((hP 61 6 (by omega)).trans m6)
      exact xTX_lay mX ((hP 10 0 (by omega)).trans mn) (hP 10 1 (by omega)) (hP 10 2 (by omega)) p3 (hP 10 4 (by omega)) (fun k hk => (pf k hk).1) (fun k hk => (pf k hk).2) (fun o ho k => hP o k (by omega))
    | succ m ih =>
      intro hm e f M hM m6 en m63 f6 f0
      refine g_X4_readPour_2 (by decide) ?_
      have mn : M 10 0 = Int32.ofNat (ab_n A) := (hM 10 0 (by unfold sNm; omega)).trans h.2.2.1.1.1
      rw [mn, if_pos ((xv_lt (by omega) (by omega)).mpr (by omega)), if_pos (show Int32.ofNat (ab_n A - (m + 1)) < (6 : Int32) from (xv_lt (b := 6) (by omega) (by decide)).mpr (by omega))]
      have te := tE_le (T := T) en
      have tp : xTpX n T M := xTpX_sm hM (by unfold sNm; omega) (fun k => by unfold sNm; omega) h.1
      have st : pPour T n A (m + 1) e f = if nOk T n e 0 5 = true then pPour T n A m (tE T n e) (fun j => if j = ab_n A - (m + 1) then tV T n e else f j) else .error (tS T n e) := rfl
      rw [st]
      refine xuse (t_num (lo := 0) (hi := 5) tp m6 en (by decide) (by decide)) (by decide) ?_
      rintro _ _ ⟨P, rfl, hP, _, ⟨ok2, rfl, p6⟩ | ⟨ok2, rfl, p1⟩⟩
      · refine g_X4_readPour_28 (by decide) ?_
        have w := nOk_iff.mp ok2
        rw [if_pos ok2, if_neg (nm_v (by omega)), if_pos ((xv_in (by omega)).mpr (by omega)), xv_clamp (by omega), show Int32.ofNat (ab_n A - (m + 1)) + 1 = Int32.ofNat (ab_n A - (m + 1) + 1) from xv_add _ 1, show ab_n A - (m + 1) + 1 = ab_n A - m from by omega]
        refine ih (by omega) _ _ _ (xsm_xw (Or.inr rfl) (xsm_trans hM (xsm_mono hP (fun o k e => Or.inl e)))) (by rw [xw_ne1 (by decide)]; exact p6) te.2.1 ?_ ?_ ?_
        · intro j hj
          show _ = Int32.ofNat (if j = ab_n A - (m + 1) then tV T n e else f j)
          by_cases c : j = ab_n A - (m + 1)
          · rw [if_pos c, c, xw_eq]
          · rw [if_neg c, xw_ne2 c, hP 63 j (by unfold sNm; omega)]; exact m63 j (by omega)
        · intro j
          show (if j = ab_n A - (m + 1) then tV T n e else f j) < 6
          split
          · omega
          · exact f6 j
        · intro j hj
          show (if j = ab_n A - (m + 1) then tV T n e else f j) = 0
          rw [if_neg (by omega)]; exact f0 j (by omega)
      · refine g_X4_readPour_28 (by decide) ?_
        rw [if_pos rfl, if_neg (by rw [ok2]; decide)]
        exact qSt_no (xsm_trans (xsm_mono hM nS) (xsm_mono hP sNm_St)) p1
  have q := key (ab_n A) (Nat.le_refl _) a (fun _ => 0) J (xsm_refl _ _) ha an (fun j hj => absurd hj (by omega)) (fun j => by decide) (fun j hj => rfl)
  rw [Nat.sub_self] at q
  exact q
/-- a statement, the class -/
theorem xtext_b : (xtext 3).length = 4 ∧ (xtext 4).length = 4 ∧ (xtext 5).length = 3 ∧ (xtext 6).length = 4 ∧ (xtext 7).length = 5 ∧ (xtext 8).length = 4 := by decide
theorem xtext_v : ∀ w, w < 9 → ∀ i, i < (xtext w).length → xnth 0 (xtext w) i < 256 := by decide
theorem qSt_b {n : Nat} {T : Nat → Nat} {R : pR} {J J' : xI} {L : xL} {z : Bool × Bool × Nat} {r : Option Value} {τ : xH} (hJ : xsm sSt J J') (h : qSt n T R J' L z r τ) : ∃ v K, r = some (.int v) ∧ τ = xS K L z ∧ xbool v = true ∧ qSt n T R J L z (some (.int v)) (xS K L z) := by
  obtain ⟨K, rfl, hK, h⟩ := h
  cases R with
  | error f => obtain ⟨rfl, h⟩ := h; exact ⟨0, K, rfl, rfl, rfl, K, rfl, xsm_trans hJ hK, rfl, h⟩
  | ok p => obtain ⟨rfl, h⟩ := h; exact ⟨1, K, rfl, rfl, rfl, K, rfl, xsm_trans hJ hK, rfl, h⟩
theorem t_stX {n a : Nat} {T : Nat → Nat} {A : xAb} {J : xI} {L : xL} {z : Bool × Bool × Nat} (h : xStX n T A J) (hc : xCuX n T a J) (an : a ≤ n) : xCd 6 64 [.ref 61] (xS J L z) (qSt n T (pStm T n A a) J L z) := by
  refine c_X4_readStatement (d := 5) (g_X4_readStatement_0 (by decide) ?_)
  have te := tE_le (T := T) an
  have tok : ∀ w : Nat, w < 9 → 3 ≤ w → xCd 5 62 [.ref 61, .ref w] (xS J L z) (qP J L z (if isWd T n a (xtext w) = true then 1 else 0)) := by
    intro w hw h3
    have hw' : w = 3 ∨ w = 4 ∨ w = 5 ∨ w = 6 ∨ w = 7 ∨ w = 8 := by omega
    refine xupD (t_isToken h.1 hc an ?_ ?_ (xtext_v w hw)) (by decide)
    · rcases hw' with rfl | rfl | rfl | rfl | rfl | rfl <;> rfl
    · obtain ⟨q3, q4, q5, q6, q7, q8⟩ := xtext_b
      rcases hw' with rfl | rfl | rfl | rfl | rfl | rfl <;> omega
  unfold pStm
  refine xuse (tok 3 (by decide) (by decide)) (Nat.le_refl _) ?_
  rintro _ _ ⟨rfl, rfl⟩
  refine g_X4_readStatement_6 (by decide) ?_
  by_cases w3 : isWd T n a (xtext 3) = true
  · simp only [if_pos w3]
    rw [if_neg (by decide)]
    refine xuse (t_cupsX h hc.1 te.2.1) (by decide) ?_
    intro r τ q
    obtain ⟨v, P, rfl, rfl, bv, q⟩ := qSt_b (xsm_refl _ _) q
    exact g_X4_readStatement_13 (by decide) (xbifT bv q)
  simp only [if_neg w3, if_true]
  refine xuse (tok 4 (by decide) (by decide)) (Nat.le_refl _) ?_
  rintro _ _ ⟨rfl, rfl⟩
  refine g_X4_readStatement_20 (by decide) ?_
  by_cases w4 : isWd T n a (xtext 4) = true
  · simp only [if_pos w4]
    rw [if_neg (by decide)]
    refine xuse (t_pourTX h hc.1 te.2.1) (by decide) ?_
    intro r τ q
    obtain ⟨v, P, rfl, rfl, bv, q⟩ := qSt_b (xsm_refl _ _) q
    exact g_X4_readStatement_27 (by decide) (xbifT bv q)
  simp only [if_neg w4, if_true]
  refine xuse (tok 5 (by decide) (by decide)) (Nat.le_refl _) ?_
  rintro _ _ ⟨rfl, rfl⟩
  refine g_X4_readStatement_34 (by decide) ?_
  by_cases w5 : isWd T n a (xtext 5) = true
  · simp only [if_pos w5]
    rw [if_neg (by decide)]
    refine xuse (t_lawX h hc.1 te.2.1) (by decide) ?_
    intro r τ q
    obtain ⟨v, P, rfl, rfl, bv, q⟩ := qSt_b (xsm_refl _ _) q
    exact g_X4_readStatement_41 (by decide) (xbifT bv q)
  simp only [if_neg w5, if_true]
  refine xuse (tok 6 (by decide) (by decide)) (Nat.le_refl _) ?_
  rintro _ _ ⟨rfl, rfl⟩
  refine g_X4_readStatement_48 (by decide) ?_
  by_cases w6 : isWd T n a (xtext 6) = true
  · simp only [if_pos w6]
    rw [if_neg (by decide)]
    refine xuse (t_sortX h hc.1 te.2.1) (by decide) ?_
    intro r τ q
    obtain ⟨v, P, rfl, rfl, bv, q⟩ := qSt_b (xsm_refl _ _) q
    exact g_X4_readStatement_55 (by decide) (xbifT bv q)
  simp only [if_neg w6, if_true]
  refine xuse (tok 7 (by decide) (by decide)) (Nat.le_refl _) ?_
  rintro _ _ ⟨rfl, rfl⟩
  refine g_X4_readStatement_62 (by decide) ?_
  by_cases w7 : isWd T n a (xtext 7) = true
  · simp only [if_pos w7]
    rw [if_neg (by decide)]
    refine xuse (t_guestX h hc.1 te.2.1) (by decide) ?_
    intro r τ q
    obtain ⟨v, P, rfl, rfl, bv, q⟩ := qSt_b (xsm_refl _ _) q
    exact g_X4_readStatement_69 (by decide) (xbifT bv q)
  simp only [if_neg w7, if_true]
  refine xuse (tok 8 (by decide) (by decide)) (Nat.le_refl _) ?_
  rintro _ _ ⟨rfl, rfl⟩
  refine g_X4_readStatement_76 (by decide) ?_
  by_cases w8 : isWd T n a (xtext 8) = true
  · simp only [if_pos w8]
    rw [if_neg (by decide)]
    refine xuse (t_signX h hc.1 te.2.1) (by decide) ?_
    intro r τ q
    obtain ⟨v, P, rfl, rfl, bv, q⟩ := qSt_b (xsm_refl _ _) q
    exact g_X4_readStatement_83 (by decide) (xbifT bv q)
  simp only [if_neg w8, if_true]
  refine xbifT (show xbool 0 = true from rfl) ?_
  exact qSt_no (xsm_xw (by unfold sSt; omega) (xsm_refl _ _)) (by rw [xw_eq]; exact hc.2.2)
/-- all statements -/
def pAll (T : Nat → Nat) (n : Nat) : Nat → Nat → xAb → Nat → Except Nat (xAb × Nat)
  | 0, _, _, _ => .error 0
  | m + 1, c, A, a => match pStm T n A a with
    | .error f => .error f
    | .ok (B, e) => if tK T n e = 0 then .ok (B, c) else if tK T n e = 3 then pAll T n m (c + 1) B (tE T n e) else .error (tS T n e)
theorem pPour_e {T : Nat → Nat} {n : Nat} {A B : xAb} {e' : Nat} : ∀ m e f, e ≤ n → pPour T n A m e f = .ok (B, e') → e ≤ e' ∧ e' ≤ n ∧ ab_tell B = ab_tell A
  | 0, e, f, en, h => by cases h; exact ⟨Nat.le_refl _, en, rfl⟩
  | m + 1, e, f, en, h => by
    have te := tE_le (T := T) en
    have ts := tS_le (T := T) en
    unfold pPour at h
    split at h
    · have := pPour_e m _ _ te.2.1 h
      exact ⟨by omega, this.2⟩
    · cases h
theorem pSort1_e {T : Nat → Nat} {n s : Nat} {B : xAb} {e' : Nat} : ∀ m (A : xAb) e, e ≤ n → pSort1 T n s m A e = .ok (B, e') → e ≤ e' ∧ e' ≤ n ∧ ab_tell B = ab_tell A
  | 0, A, e, en, h => by cases h; exact ⟨Nat.le_refl _, en, rfl⟩
  | m + 1, A, e, en, h => by
    have te := tE_le (T := T) en
    have ts := tS_le (T := T) en
    unfold pSort1 at h
    split at h
    · have := pSort1_e m _ _ te.2.1 h
      exact ⟨by omega, this.2.1, this.2.2⟩
    · cases h
theorem lrn_te (A : xAb) (p k v : Nat) : ab_tell (ab_lrn A p k v) = ab_tell A := by
  unfold ab_lrn
  split <;> rfl
theorem isWd_k {T : Nat → Nat} {n a : Nat} {w : List Nat} (h : isWd T n a w = true) : tK T n a = 1 := (of_decide_eq_true h).1
theorem pStm_e {T : Nat → Nat} {n : Nat} {A B : xAb} {a e : Nat} (an : a ≤ n) (h : pStm T n A a = .ok (B, e)) : a + 1 ≤ e ∧ e ≤ n ∧ ab_tell B = ab_tell A := by
  have ts := tS_le (T := T) an
  have te := tE_le (T := T) an
  have t1 := tE_le (T := T) te.2.1
  have s1 := tS_le (T := T) te.2.1
  have t2 := tE_le (T := T) t1.2.1
  have s2 := tS_le (T := T) t1.2.1
  have t3 := tE_le (T := T) t2.2.1
  have s3 := tS_le (T := T) t2.2.1
  have go : tK T n a = 1 → ∀ {e' : Nat}, tE T n a ≤ e' → a + 1 ≤ e' := fun k e' q => by
    have := te.2.2 (by omega)
    omega
  unfold pStm at h
  split at h
  · rename_i w
    have k := isWd_k w
    unfold pCups at h
    split at h
    · cases h; exact ⟨go k (by omega), t1.2.1, rfl⟩
    · cases h
  split at h
  · rename_i w
    have k := isWd_k w
    have := pPour_e _ _ _ te.2.1 h
    exact ⟨go k this.1, this.2⟩
  split at h
  · rename_i w
    have k := isWd_k w
    unfold pLaw at h
    split at h
    · cases h; exact ⟨go k (by omega), t1.2.1, rfl⟩
    · cases h
  split at h
  · rename_i w
    have k := isWd_k w
    unfold pSort at h
    split at h
    · have := pSort1_e _ _ _ t1.2.1 h
      exact ⟨go k (by omega), this.2⟩
    · cases h
  split at h
  · rename_i w
    have k := isWd_k w
    unfold pGuest at h
    split at h
    · split at h
      · split at h
        · cases h; exact ⟨go k (by omega), t3.2.1, rfl⟩
        · cases h
      · cases h
    · cases h
  split at h
  · rename_i w
    have k := isWd_k w
    unfold pSign at h
    split at h
    · split at h
      · split at h
        · split at h
          · cases h
          · cases h; exact ⟨go k (by omega), t3.2.1, lrn_te _ _ _ _⟩
        · cases h
      · cases h
    · cases h
  · cases h
