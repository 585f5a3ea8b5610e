/-! promise stair: the tokens of a tape -/
def isL (b : Nat) : Bool := decide (97 ≤ b ∧ b ≤ 122)
def isD (b : Nat) : Bool := decide (48 ≤ b ∧ b ≤ 57)
def isB (b : Nat) : Bool := decide (b = 32)
def scF (P : Nat → Bool) (T : Nat → Nat) : Nat → Nat → Nat
  | 0, i => i
  | m + 1, i => if P (T i) = true then scF P T m (i + 1) else i
def scA (P : Nat → Bool) (T : Nat → Nat) (n i : Nat) : Nat := scF P T (n - i) i
theorem scA_at {P : Nat → Bool} {T : Nat → Nat} {n i : Nat} (h : i < n) : scA P T n i = if P (T i) = true then scA P T n (i + 1) else i := by
  unfold scA
  rw [show n - i = (n - (i + 1)) + 1 from by omega]; rfl
theorem scA_end {P : Nat → Bool} {T : Nat → Nat} {n : Nat} : scA P T n n = n := by
  unfold scA
  rw [Nat.sub_self]; rfl
theorem scF_le {P : Nat → Bool} {T : Nat → Nat} : ∀ m i, i ≤ scF P T m i ∧ scF P T m i ≤ i + m
  | 0, i => ⟨Nat.le_refl _, Nat.le_refl _⟩
  | m + 1, i => by
    show i ≤ (if P (T i) = true then scF P T m (i + 1) else i) ∧ (if P (T i) = true then scF P T m (i + 1) else i) ≤ _
    have := scF_le (P := P) (T := T) m (i + 1)
    split <;> omega
theorem scA_le {P : Nat → Bool} {T : Nat → Nat} {n i : Nat} (h : i ≤ n) : i ≤ scA P T n i ∧ scA P T n i ≤ n := by
  have := scF_le (P := P) (T := T) (n - i) i
  unfold scA
  omega
def dgN (s i v b : Nat) : Nat := if i - s < 2 then v * 10 + b - 48 else 1000
def dgF (T : Nat → Nat) (s : Nat) : Nat → Nat → Nat → Nat × Nat
  | 0, i, v => (v, i)
  | m + 1, i, v => if isD (T i) = true then dgF T s m (i + 1) (dgN s i v (T i)) else (v, i)
def dgA (T : Nat → Nat) (s n i v : Nat) : Nat × Nat := dgF T s (n - i) i v
theorem dgA_at {T : Nat → Nat} {s n i v : Nat} (h : i < n) : dgA T s n i v = if isD (T i) = true then dgA T s n (i + 1) (dgN s i v (T i)) else (v, i) := by
  unfold dgA
  rw [show n - i = (n - (i + 1)) + 1 from by omega]; rfl
theorem dgA_end {T : Nat → Nat} {s n v : Nat} : dgA T s n n v = (v, n) := by
  unfold dgA
  rw [Nat.sub_self]; rfl
theorem dgF_le {T : Nat → Nat} {s : Nat} : ∀ m i v, i ≤ (dgF T s m i v).2 ∧ (dgF T s m i v).2 ≤ i + m
  | 0, i, v => ⟨Nat.le_refl _, Nat.le_refl _⟩
  | m + 1, i, v => by
    show i ≤ (if isD (T i) = true then dgF T s m (i + 1) (dgN s i v (T i)) else (v, i)).2 ∧ (if isD (T i) = true then dgF T s m (i + 1) (dgN s i v (T i)) else (v, i)).2 ≤ _
    have := dgF_le (T := T) (s := s) m (i + 1) (dgN s i v (T i))
    split
    · omega
    · exact ⟨Nat.le_refl _, Nat.le_add_right _ _⟩
/-- a token that starts at s: kind, end, number -/
def kK (T : Nat → Nat) (n s : Nat) : Nat := if n ≤ s then 0 else if isL (T s) = true then 1 else if isD (T s) = true then 2 else if T s = 59 then 3 else 4
def kE (T : Nat → Nat) (n s : Nat) : Nat := if n ≤ s then s else if isL (T s) = true then scA isL T n s else if isD (T s) = true then (dgA T s n s 0).2 else s + 1
def kV (T : Nat → Nat) (n s : Nat) : Nat := if n ≤ s then 0 else if isL (T s) = true then 0 else if isD (T s) = true then (dgA T s n s 0).1 else 0
def tS (T : Nat → Nat) (n a : Nat) : Nat := scA isB T n a
def tK (T : Nat → Nat) (n a : Nat) : Nat := kK T n (tS T n a)
def tE (T : Nat → Nat) (n a : Nat) : Nat := kE T n (tS T n a)
def tV (T : Nat → Nat) (n a : Nat) : Nat := kV T n (tS T n a)
theorem tS_le {T : Nat → Nat} {n a : Nat} (h : a ≤ n) : a ≤ tS T n a ∧ tS T n a ≤ n := scA_le h
theorem tE_le {T : Nat → Nat} {n a : Nat} (h : a ≤ n) : tS T n a ≤ tE T n a ∧ tE T n a ≤ n ∧ (tK T n a ≠ 0 → tS T n a + 1 ≤ tE T n a) := by
  have hs := tS_le (T := T) h
  unfold tE tK
  generalize tS T n a = s at *
  unfold kE kK
  by_cases c : n ≤ s
  · rw [if_pos c, if_pos c]
    exact ⟨Nat.le_refl _, hs.2, fun q => absurd rfl q⟩
  · rw [if_neg c, if_neg c]
    by_cases d : isL (T s) = true
    · rw [if_pos d, if_pos d, scA_at (by omega), if_pos d]
      have := scA_le (P := isL) (T := T) (n := n) (i := s + 1) (by omega)
      omega
    · rw [if_neg d, if_neg d]
      by_cases e : isD (T s) = true
      · rw [if_pos e, if_pos e, dgA_at (by omega), if_pos e]
        have := dgF_le (T := T) (s := s) (n - (s + 1)) (s + 1) (dgN s s 0 (T s))
        unfold dgA
        omega
      · rw [if_neg e, if_neg e]; omega
/-- the tape on the class's side, on the reference's -/
def xTpX (n : Nat) (T : Nat → Nat) (J : xI) : Prop := n ≤ 250 ∧ (∀ i, T i < 256) ∧ J 61 0 = Int32.ofNat n ∧ ∀ i, i < n → J 62 i = Int32.ofNat (T i)
def xTpM (n : Nat) (T : Nat → Nat) (J : xI) : Prop := n ≤ 250 ∧ (∀ i, T i < 256) ∧ J 66 7 = Int32.ofNat n ∧ ∀ i, i < n → J 81 i = Int32.ofNat (T i)
theorem xTpX_sm {n : Nat} {T : Nat → Nat} {S : Nat → Nat → Prop} {J K : xI} (h : xsm S J K) (h1 : ¬ S 61 0) (h2 : ∀ k, ¬ S 62 k) (q : xTpX n T J) : xTpX n T K := ⟨q.1, q.2.1, (h _ _ h1).trans q.2.2.1, fun i hi => (h _ _ (h2 i)).trans (q.2.2.2 i hi)⟩
theorem xTpM_sm {n : Nat} {T : Nat → Nat} {S : Nat → Nat → Prop} {J K : xI} (h : xsm S J K) (h1 : ¬ S 66 7) (h2 : ∀ k, ¬ S 81 k) (q : xTpM n T J) : xTpM n T K := ⟨q.1, q.2.1, (h _ _ h1).trans q.2.2.1, fun i hi => (h _ _ (h2 i)).trans (q.2.2.2 i hi)⟩
theorem f_byte {n i : Nat} {T : Nat → Nat} {J : xI} {L : xL} (h : xTpX n T J) (hi : i < n) : f_X4_byteAt J L (Int32.ofNat i) = Int32.ofNat (T i) := by
  have := h.1
  unfold f_X4_byteAt
  rw [h.2.2.1, if_neg (xv_neg (by omega)), if_pos ((xv_lt (by omega) (by omega)).mpr hi), if_pos (show Int32.ofNat i < (250 : Int32) from (xv_lt (b := 250) (by omega) (by decide)).mpr (by omega)), if_pos ((xv_in (by omega)).mpr (by omega)), xv_clamp (by omega), h.2.2.2 i hi]
theorem f_byte_end {n i : Nat} {T : Nat → Nat} {J : xI} {L : xL} (h : xTpX n T J) (hi : n ≤ i) (h2 : i < 1000) : f_X4_byteAt J L (Int32.ofNat i) = -1 := by
  have := h.1
  unfold f_X4_byteAt
  rw [h.2.2.1, if_neg (xv_neg (by omega)), if_neg (fun q => by have := (xv_lt (by omega) (by omega)).mp q; omega)]
theorem let_X {I : xI} {L : xL} {b : Nat} (h : b < 256) : p_X4_isLetter I L (Int32.ofNat b) ↔ isL b = true := by
  have a1 := xv_lt (a := b) (b := 97) (by omega) (by decide)
  have a2 := xv_lt (a := 122) (b := b) (by decide) (by omega)
  unfold isL
  rw [decide_eq_true_iff]
  show (¬ Int32.ofNat b < Int32.ofNat 97 ∧ ¬ Int32.ofNat 122 < Int32.ofNat b) ↔ _
  rw [a1, a2]; omega
theorem dig_X {I : xI} {L : xL} {b : Nat} (h : b < 256) : p_X4_isDigit I L (Int32.ofNat b) ↔ isD b = true := by
  have a1 := xv_lt (a := b) (b := 48) (by omega) (by decide)
  have a2 := xv_lt (a := 57) (b := b) (by decide) (by omega)
  unfold isD
  rw [decide_eq_true_iff]
  show (¬ Int32.ofNat b < Int32.ofNat 48 ∧ ¬ Int32.ofNat 57 < Int32.ofNat b) ↔ _
  rw [a1, a2]; omega
theorem let_M {I : xI} {L : xL} {b : Nat} (h : b < 256) : p_X9_isLetter I L (Int32.ofNat b) ↔ isL b = true := let_X (I := I) (L := L) h
theorem dig_M {I : xI} {L : xL} {b : Nat} (h : b < 256) : p_X9_isDigit I L (Int32.ofNat b) ↔ isD b = true := dig_X (I := I) (L := L) h
theorem isD_le {b : Nat} (h : isD b = true) : 48 ≤ b ∧ b ≤ 57 := of_decide_eq_true h
/-- a number as the class keeps it -/
def cvN (v : Nat) : Int32 := if v = 1000 then -1 else Int32.ofNat v
def dgI (s i v : Nat) : Prop := (i = s ∧ v = 0) ∨ (i = s + 1 ∧ v ≤ 9) ∨ (i = s + 2 ∧ v ≤ 99) ∨ (s + 3 ≤ i ∧ v = 1000)
theorem dgI_s {s i v b : Nat} (h : dgI s i v) (hb : isD b = true) : dgI s (i + 1) (dgN s i v b) := by
  have := isD_le hb
  unfold dgI at h ⊢
  unfold dgN
  rcases h with ⟨a, c⟩ | ⟨a, c⟩ | ⟨a, c⟩ | ⟨a, c⟩
  · rw [if_pos (by omega)]; omega
  · rw [if_pos (by omega)]; omega
  · rw [if_neg (by omega)]; omega
  · rw [if_neg (by omega)]; omega
theorem xv_less {a b : Nat} (h : b ≤ a) : Int32.ofNat a - Int32.ofNat b = Int32.ofNat (a - b) := xv_sub h
def sTk : Nat → Nat → Prop := fun o k => o = 61 ∧ 6 ≤ k
def qTk (n : Nat) (T : Nat → Nat) (a : Nat) (J : xI) (L : xL) (z : Bool × Bool × Nat) : xQ := qN sTk J L z (fun K => K 61 6 = Int32.ofNat (tE T n a) ∧ K 61 7 = Int32.ofNat (tK T n a) ∧ K 61 8 = Int32.ofNat (tS T n a) ∧ (tK T n a = 2 → K 61 9 = cvN (tV T n a)))
theorem t_tok {n a : Nat} {T : Nat → Nat} {J : xI} {L : xL} {z : Bool × Bool × Nat} (h : xTpX n T J) (ha : J 61 6 = Int32.ofNat a) (an : a ≤ n) : xCd 2 61 [.ref 61] (xS J L z) (qTk n T a J L z) := by
  have n250 := h.1
  have hT := h.2.1
  refine c_X4_readToken (d := 1) ?_
  have tp : ∀ K : xI, xsm sTk J K → xTpX n T K := fun K hK => xTpX_sm hK (by unfold sTk; omega) (fun k => by unfold sTk; omega) h
  have s61 : ∀ {K : xI} {k : Nat} {v : Int32}, 6 ≤ k → xsm sTk J K → xsm sTk J (xw K 61 k v) := fun hk hK => xsm_xw ⟨rfl, hk⟩ hK
  -- letters
  have lets : ∀ i, i < n → tS T n a = i → isL (T i) = true → ∀ m j, j + m = n → scA isL T n j = scA isL T n i → ∀ (K : xI) (c : Int32), xsm sTk J K → K 61 6 = Int32.ofNat j → K 61 7 = 1 → K 61 8 = Int32.ofNat i → h_X4_readToken_79 1 (qTk n T a J L z) (0, 0) K L z c := by
    intro i hi ts hl m
    have fin : ∀ (K : xI) (j : Nat), j = scA isL T n i → xsm sTk J K → K 61 6 = Int32.ofNat j → K 61 7 = 1 → K 61 8 = Int32.ofNat i → qTk n T a J L z none (xS K L z) := by
      intro K j e hK k6 k7 k8
      refine ⟨rfl, K, rfl, hK, ?_, ?_, ?_, ?_⟩
      · rw [k6, e]; unfold tE; rw [ts]; unfold kE; rw [if_neg (by omega), if_pos hl]
      · rw [k7]; unfold tK; rw [ts]; unfold kK; rw [if_neg (by omega), if_pos hl]; rfl
      · rw [k8, ts]
      · intro q
        unfold tK at q; rw [ts] at q; unfold kK at q; rw [if_neg (by omega), if_pos hl] at q
        exact absurd q (by decide)
    induction m with
    | zero =>
      intro j e hs K c hK k6 k7 k8
      refine g_X4_readToken_79 (by decide) ?_
      have e : j = n := by omega
      subst e
      rw [k6, (tp K hK).2.2.1, if_neg (fun q => absurd ((xv_lt (by omega) (by omega)).mp q) (Nat.lt_irrefl _))]
      rw [scA_end] at hs
      exact fin K j hs hK k6 k7 k8
    | succ m ih =>
      intro j e hs K c hK k6 k7 k8
      refine g_X4_readToken_79 (by decide) ?_
      rw [k6, (tp K hK).2.2.1, if_pos ((xv_lt (by omega) (by omega)).mpr (by omega)), f_byte (tp K hK) (by omega)]
      rw [scA_at (by omega)] at hs
      by_cases c : isL (T j) = true
      · rw [if_pos ((let_X (hT j)).mpr c), show Int32.ofNat j + 1 = Int32.ofNat (j + 1) from xv_add j 1]
        rw [if_pos c] at hs
        exact ih (j + 1) (by omega) hs _ _ (s61 (by decide) hK) (xw_eq _ _ _ _) ((xw_ne2 (by decide)).trans k7) ((xw_ne2 (by decide)).trans k8)
      · rw [if_neg (fun q => c ((let_X (hT j)).mp q))]
        rw [if_neg c] at hs
        exact fin K j hs hK k6 k7 k8
  -- figures
  have digs : ∀ i, i < n → tS T n a = i → isL (T i) ≠ true → isD (T i) = true → ∀ m j v, j + m = n → i ≤ j → dgI i j v → dgA T i n j v = dgA T i n i 0 → ∀ (K : xI) (c : Int32), xsm sTk J K → K 61 6 = Int32.ofNat j → K 61 7 = 2 → K 61 8 = Int32.ofNat i → K 61 9 = cvN v → h_X4_readToken_134 1 (qTk n T a J L z) (0, 0) K L z c := by
    intro i hi ts hl hd m
    have fin : ∀ (K : xI) (j v : Nat), (v, j) = dgA T i n i 0 → xsm sTk J K → K 61 6 = Int32.ofNat j → K 61 7 = 2 → K 61 8 = Int32.ofNat i → K 61 9 = cvN v → qTk n T a J L z none (xS K L z) := by
      intro K j v e hK k6 k7 k8 k9
      refine ⟨rfl, K, rfl, hK, ?_, ?_, ?_, ?_⟩
      · rw [k6]; unfold tE; rw [ts]; unfold kE; rw [if_neg (by omega), if_neg hl, if_pos hd, ← e]
      · rw [k7]; unfold tK; rw [ts]; unfold kK; rw [if_neg (by omega), if_neg hl, if_pos hd]; rfl
      · rw [k8, ts]
      · intro _
        rw [k9]; unfold tV; rw [ts]; unfold kV; rw [if_neg (by omega), if_neg hl, if_pos hd, ← e]
    induction m with
    | zero =>
      intro j v e ij hv hs K c hK k6 k7 k8 k9
      refine g_X4_readToken_134 (by decide) ?_
      have e : j = n := by omega
      subst e
      rw [k6, (tp K hK).2.2.1, if_neg (fun q => absurd ((xv_lt (by omega) (by omega)).mp q) (Nat.lt_irrefl _))]
      rw [dgA_end] at hs
      exact fin K j v hs hK k6 k7 k8 k9
    | succ m ih =>
      intro j v e ij hv hs K c hK k6 k7 k8 k9
      refine g_X4_readToken_134 (by decide) ?_
      have fb := f_byte (L := L) (tp K hK) (show j < n by omega)
      rw [k6, k8, k9, (tp K hK).2.2.1, if_pos ((xv_lt (by omega) (by omega)).mpr (by omega)), fb]
      rw [dgA_at (by omega)] at hs
      by_cases c : isD (T j) = true
      · rw [if_pos ((dig_X (hT j)).mpr c), show Int32.ofNat j - Int32.ofNat i = Int32.ofNat (j - i) from xv_sub ij]
        rw [if_pos c] at hs
        have hb := isD_le c
        have hn := dgI_s hv c
        by_cases d : j - i < 2
        · rw [if_pos (show Int32.ofNat (j - i) < (2 : Int32) from (xv_lt (b := 2) (by omega) (by decide)).mpr d)]
          have v9 : v ≤ 9 := by unfold dgI at hv; omega
          have cv : cvN v = Int32.ofNat v := by unfold cvN; rw [if_neg (by omega)]
          have nv : dgN i j v (T j) = v * 10 + T j - 48 := by unfold dgN; rw [if_pos d]
          have cv2 : Int32.ofNat v * 10 + Int32.ofNat (T j) - 48 = cvN (dgN i j v (T j)) := by
            rw [show Int32.ofNat v * 10 = Int32.ofNat (v * 10) from xv_mul v 10, xv_add, show Int32.ofNat (v * 10 + T j) - 48 = Int32.ofNat (v * 10 + T j - 48) from xv_sub (b := 48) (by omega), nv]
            unfold cvN; rw [if_neg (by omega)]
          rw [cv, cv2, xw_ne2 (by decide), k6, show Int32.ofNat j + 1 = Int32.ofNat (j + 1) from xv_add j 1]
          exact ih (j + 1) _ (by omega) (by omega) hn hs _ _ (s61 (by decide) (s61 (by decide) hK)) (xw_eq _ _ _ _) ((xw_ne2 (by decide)).trans ((xw_ne2 (by decide)).trans k7)) ((xw_ne2 (by decide)).trans ((xw_ne2 (by decide)).trans k8)) ((xw_ne2 (by decide)).trans (xw_eq _ _ _ _))
        · rw [if_neg (show ¬ Int32.ofNat (j - i) < (2 : Int32) from fun q => d ((xv_lt (b := 2) (by omega) (by decide)).mp q))]
          have nv : dgN i j v (T j) = 1000 := by unfold dgN; rw [if_neg d]
          rw [nv] at hn hs
          rw [xw_ne2 (by decide), k6, show Int32.ofNat j + 1 = Int32.ofNat (j + 1) from xv_add j 1]
          exact ih (j + 1) 1000 (by omega) (by omega) hn hs _ _ (s61 (by decide) (s61 (by decide) hK)) (xw_eq _ _ _ _) ((xw_ne2 (by decide)).trans ((xw_ne2 (by decide)).trans k7)) ((xw_ne2 (by decide)).trans ((xw_ne2 (by decide)).trans k8)) ((xw_ne2 (by decide)).trans (xw_eq _ _ _ _))
      · rw [if_neg (fun q => c ((dig_X (hT j)).mp q))]
        rw [if_neg c] at hs
        exact fin K j v hs hK k6 k7 k8 k9
  -- blanks
  have key : ∀ m i, i + m = n → tS T n a = scA isB T n i → ∀ K : xI, xsm sTk J K → K 61 6 = Int32.ofNat i → h_X4_readToken_0 1 (qTk n T a J L z) (0, 0) K L z := by
    intro m
    induction m with
    | zero =>
      intro i e hs K hK k6
      refine g_X4_readToken_0 (by decide) ?_
      have e : i = n := by omega
      subst e
      rw [scA_end] at hs
      rw [xw_ne2 (o := 61) (k := 8) (k' := 6) (by decide), k6, (tp K hK).2.2.1, if_neg (fun q => absurd ((xv_lt (by omega) (by omega)).mp q) (Nat.lt_irrefl _))]
      have hK2 : xsm sTk J (xw K 61 8 (Int32.ofNat i)) := s61 (by decide) hK
      rw [f_byte_end (tp _ hK2) (Nat.le_refl _) (by omega), if_pos rfl]
      refine ⟨rfl, _, rfl, s61 (by decide) hK2, ?_, ?_, ?_, ?_⟩
      · rw [xw_ne2 (by decide), xw_ne2 (by decide), k6]; unfold tE; rw [hs]; unfold kE; rw [if_pos (Nat.le_refl _)]
      · rw [xw_eq]; unfold tK; rw [hs]; unfold kK; rw [if_pos (Nat.le_refl _)]; rfl
      · rw [xw_ne2 (by decide), xw_eq, hs]
      · intro q
        unfold tK at q; rw [hs] at q; unfold kK at q; rw [if_pos (Nat.le_refl _)] at q
        exact absurd q (by decide)
    | succ m ih =>
      intro i e hs K hK k6
      refine g_X4_readToken_0 (by decide) ?_
      have hi : i < n := by omega
      have ti := hT i
      have fb := f_byte (L := L) (tp K hK) hi
      have hK2 : xsm sTk J (xw K 61 8 (Int32.ofNat i)) := s61 (by decide) hK
      have fb2 := f_byte (L := L) (tp _ hK2) hi
      rw [xw_ne2 (o := 61) (k := 8) (k' := 6) (by decide), k6, (tp K hK).2.2.1, if_pos ((xv_lt (by omega) (by omega)).mpr hi), fb, fb2]
      rw [scA_at hi] at hs
      by_cases c : T i = 32
      · rw [if_pos (show Int32.ofNat (T i) = (32 : Int32) from by rw [c]; rfl), show Int32.ofNat i + 1 = Int32.ofNat (i + 1) from xv_add i 1]
        rw [if_pos (show isB (T i) = true from decide_eq_true c)] at hs
        exact ih (i + 1) (by omega) hs _ (s61 (by decide) hK) (xw_eq _ _ _ _)
      · rw [if_neg (show ¬ Int32.ofNat (T i) = (32 : Int32) from fun q => c ((xv_eq (b := 32) (by omega) (by decide)).mp q)), if_neg (show ¬ Int32.ofNat (T i) = (-1 : Int32) from fun q => by
          rw [show (-1 : Int32) = -(Int32.ofNat 1) from rfl, xv_m1 (by omega) (by decide) (by decide)] at q
          exact q)]
        rw [if_neg (show ¬ isB (T i) = true from fun q => c (of_decide_eq_true q))] at hs
        by_cases d : isL (T i) = true
        · rw [if_pos ((let_X ti).mpr d)]
          exact lets i hi hs d m.succ i (by omega) rfl _ _ (s61 (by decide) hK2) ((xw_ne2 (by decide)).trans ((xw_ne2 (by decide)).trans k6)) (xw_eq _ _ _ _) ((xw_ne2 (by decide)).trans (xw_eq _ _ _ _))
        · rw [if_neg (fun q => d ((let_X ti).mp q))]
          by_cases f : isD (T i) = true
          · rw [if_pos ((dig_X ti).mpr f)]
            exact digs i hi hs d f m.succ i 0 (by omega) (Nat.le_refl _) (Or.inl ⟨rfl, rfl⟩) rfl _ _ (s61 (by decide) (s61 (by decide) hK2)) ((xw_ne2 (by decide)).trans ((xw_ne2 (by decide)).trans ((xw_ne2 (by decide)).trans k6))) ((xw_ne2 (by decide)).trans (xw_eq _ _ _ _)) ((xw_ne2 (by decide)).trans ((xw_ne2 (by decide)).trans (xw_eq _ _ _ _))) (xw_eq _ _ _ _)
          · rw [if_neg (fun q => f ((dig_X ti).mp q))]
            have fin : ∀ k : Nat, k = kK T n i → k ≠ 2 → qTk n T a J L z none (xS (xw (xw (xw K 61 8 (Int32.ofNat i)) 61 7 (Int32.ofNat k)) 61 6 (xw (xw K 61 8 (Int32.ofNat i)) 61 7 (Int32.ofNat k) 61 6 + 1)) L z) := by
              intro k hk k2
              refine ⟨rfl, _, rfl, s61 (by decide) (s61 (by decide) hK2), ?_, ?_, ?_, ?_⟩
              · rw [xw_eq, xw_ne2 (by decide), xw_ne2 (by decide), k6, show Int32.ofNat i + 1 = Int32.ofNat (i + 1) from xv_add i 1]
                unfold tE; rw [hs]; unfold kE; rw [if_neg (by omega), if_neg d, if_neg f]
              · rw [xw_ne2 (by decide), xw_eq]; unfold tK; rw [hs, hk]
              · rw [xw_ne2 (by decide), xw_ne2 (by decide), xw_eq, hs]
              · intro q
                unfold tK at q; rw [hs, ← hk] at q
                exact absurd q k2
            by_cases g : T i = 59
            · rw [if_pos (show Int32.ofNat (T i) = (59 : Int32) from by rw [g]; rfl)]
              exact fin 3 (by unfold kK; rw [if_neg (by omega), if_neg d, if_neg f, if_pos g]) (by decide)
            · rw [if_neg (show ¬ Int32.ofNat (T i) = (59 : Int32) from fun q => g ((xv_eq (b := 59) (by omega) (by decide)).mp q))]
              exact fin 4 (by unfold kK; rw [if_neg (by omega), if_neg d, if_neg f, if_neg g]) (by decide)
  exact key (n - a) a (by omega) rfl J (xsm_refl _ _) ha
/-- the reference's -/
def sLk : Nat → Nat → Prop := fun o k => o = 66 ∧ 23 ≤ k ∧ k ≤ 26
def xCur (n : Nat) (T : Nat → Nat) (a : Nat) (K : xI) : Prop := K 66 23 = Int32.ofNat (tE T n a) ∧ K 66 24 = Int32.ofNat (tK T n a) ∧ K 66 25 = Int32.ofNat (tS T n a) ∧ (tK T n a = 2 → K 66 26 = Int32.ofNat (tV T n a))
theorem t_look {n a : Nat} {T : Nat → Nat} {J : xI} {L : xL} {z : Bool × Bool × Nat} (h : xTpM n T J) (ha : J 66 23 = Int32.ofNat a) (an : a ≤ n) : xCd 2 224 [.ref 66] (xS J L z) (qN sLk J L z (xCur n T a)) := by
  have n250 := h.1
  have hT := h.2.1
  refine c_X9_look (d := 1) ?_
  have tp : ∀ K : xI, xsm sLk J K → xTpM n T K := fun K hK => xTpM_sm hK (by unfold sLk; omega) (fun k => by unfold sLk; omega) h
  have s66 : ∀ {K : xI} {k : Nat} {v : Int32}, (23 ≤ k ∧ k ≤ 26) → xsm sLk J K → xsm sLk J (xw K 66 k v) := fun hk hK => xsm_xw ⟨rfl, hk⟩ hK
  -- letters
  have lets : ∀ i, i < n → tS T n a = i → isL (T i) = true → ∀ m j, j + m = n → scA isL T n j = scA isL T n i → ∀ (K : xI), xsm sLk J K → K 66 23 = Int32.ofNat j → K 66 24 = 1 → K 66 25 = Int32.ofNat i → h_X9_look_90 1 (qN sLk J L z (xCur n T a)) (0, 0) K L z := by
    intro i hi ts hl m
    have fin : ∀ (K : xI) (j : Nat), j = scA isL T n i → xsm sLk J K → K 66 23 = Int32.ofNat j → K 66 24 = 1 → K 66 25 = Int32.ofNat i → qN sLk J L z (xCur n T a) none (xS K L z) := by
      intro K j e hK k6 k7 k8
      refine ⟨rfl, K, rfl, hK, ?_, ?_, ?_, ?_⟩
      · rw [k6, e]; unfold tE; rw [ts]; unfold kE; rw [if_neg (by omega), if_pos hl]
      · rw [k7]; unfold tK; rw [ts]; unfold kK; rw [if_neg (by omega), if_pos hl]; rfl
      · rw [k8, ts]
      · intro q
        unfold tK at q; rw [ts] at q; unfold kK at q; rw [if_neg (by omega), if_pos hl] at q
        exact absurd q (by decide)
    induction m with
    | zero =>
      intro j e hs K hK k6 k7 k8
      refine g_X9_look_90 (by decide) ?_
      have e : j = n := by omega
      subst e
      rw [k6, (tp K hK).2.2.1, if_neg (fun q => absurd ((xv_lt (by omega) (by omega)).mp q) (Nat.lt_irrefl _))]
      rw [scA_end] at hs
      exact fin K j hs hK k6 k7 k8
    | succ m ih =>
      intro j e hs K hK k6 k7 k8
      refine g_X9_look_90 (by decide) ?_
      rw [k6, (tp K hK).2.2.1, if_pos ((xv_lt (by omega) (by omega)).mpr (by omega)), if_pos ((xv_in (by omega)).mpr (by omega)), xv_clamp (by omega), (tp K hK).2.2.2 j (by omega)]
      rw [scA_at (by omega)] at hs
      by_cases c : isL (T j) = true
      · rw [if_pos ((let_M (hT j)).mpr c), show Int32.ofNat j + 1 = Int32.ofNat (j + 1) from xv_add j 1]
        rw [if_pos c] at hs
        exact ih (j + 1) (by omega) hs _ (s66 (by decide) hK) (xw_eq _ _ _ _) ((xw_ne2 (by decide)).trans k7) ((xw_ne2 (by decide)).trans k8)
      · rw [if_neg (fun q => c ((let_M (hT j)).mp q))]
        rw [if_neg c] at hs
        exact fin K j hs hK k6 k7 k8
  have digs : ∀ i, i < n → tS T n a = i → isL (T i) ≠ true → isD (T i) = true → ∀ m j v, j + m = n → i ≤ j → dgI i j v → dgA T i n j v = dgA T i n i 0 → ∀ (K : xI), xsm sLk J K → K 66 23 = Int32.ofNat j → K 66 24 = 2 → K 66 25 = Int32.ofNat i → K 66 26 = Int32.ofNat v → h_X9_look_149 1 (qN sLk J L z (xCur n T a)) (0, 0) K L z := by
    intro i hi ts hl hd m
    have fin : ∀ (K : xI) (j v : Nat), (v, j) = dgA T i n i 0 → xsm sLk J K → K 66 23 = Int32.ofNat j → K 66 24 = 2 → K 66 25 = Int32.ofNat i → K 66 26 = Int32.ofNat v → qN sLk J L z (xCur n T a) none (xS K L z) := by
      intro K j v e hK k6 k7 k8 k9
      refine ⟨rfl, K, rfl, hK, ?_, ?_, ?_, ?_⟩
      · rw [k6]; unfold tE; rw [ts]; unfold kE; rw [if_neg (by omega), if_neg hl, if_pos hd, ← e]
      · rw [k7]; unfold tK; rw [ts]; unfold kK; rw [if_neg (by omega), if_neg hl, if_pos hd]; rfl
      · rw [k8, ts]
      · intro _
        rw [k9]; unfold tV; rw [ts]; unfold kV; rw [if_neg (by omega), if_neg hl, if_pos hd, ← e]
    induction m with
    | zero =>
      intro j v e ij hv hs K hK k6 k7 k8 k9
      refine g_X9_look_149 (by decide) ?_
      have e : j = n := by omega
      subst e
      rw [k6, (tp K hK).2.2.1, if_neg (fun q => absurd ((xv_lt (by omega) (by omega)).mp q) (Nat.lt_irrefl _))]
      rw [dgA_end] at hs
      exact fin K j v hs hK k6 k7 k8 k9
    | succ m ih =>
      intro j v e ij hv hs K hK k6 k7 k8 k9
      refine g_X9_look_149 (by decide) ?_
      rw [k6, k8, k9, (tp K hK).2.2.1, if_pos ((xv_lt (by omega) (by omega)).mpr (by omega)), if_pos ((xv_in (by omega)).mpr (by omega)), xv_clamp (by omega), (tp K hK).2.2.2 j (by omega)]
      rw [dgA_at (by omega)] at hs
      by_cases c : isD (T j) = true
      · rw [if_pos ((dig_M (hT j)).mpr c), show Int32.ofNat j - Int32.ofNat i = Int32.ofNat (j - i) from xv_sub ij]
        rw [if_pos c] at hs
        have hb := isD_le c
        have hn := dgI_s hv c
        by_cases d : j - i < 2
        · rw [if_pos (show Int32.ofNat (j - i) < (2 : Int32) from (xv_lt (b := 2) (by omega) (by decide)).mpr d)]
          have nv : dgN i j v (T j) = v * 10 + T j - 48 := by unfold dgN; rw [if_pos d]
          have cv2 : Int32.ofNat v * 10 + Int32.ofNat (T j) - 48 = Int32.ofNat (dgN i j v (T j)) := by
            rw [show Int32.ofNat v * 10 = Int32.ofNat (v * 10) from xv_mul v 10, xv_add, show Int32.ofNat (v * 10 + T j) - 48 = Int32.ofNat (v * 10 + T j - 48) from xv_sub (b := 48) (by omega), nv]
          rw [cv2, xw_ne2 (by decide), k6, show Int32.ofNat j + 1 = Int32.ofNat (j + 1) from xv_add j 1]
          exact ih (j + 1) _ (by omega) (by omega) hn hs _ (s66 (by decide) (s66 (by decide) hK)) (xw_eq _ _ _ _) ((xw_ne2 (by decide)).trans ((xw_ne2 (by decide)).trans k7)) ((xw_ne2 (by decide)).trans ((xw_ne2 (by decide)).trans k8)) ((xw_ne2 (by decide)).trans (xw_eq _ _ _ _))
        · rw [if_neg (show ¬ Int32.ofNat (j - i) < (2 : Int32) from fun q => d ((xv_lt (b := 2) (by omega) (by decide)).mp q))]
          have nv : dgN i j v (T j) = 1000 := by unfold dgN; rw [if_neg d]
          rw [nv] at hn hs
          rw [xw_ne2 (by decide), k6, show Int32.ofNat j + 1 = Int32.ofNat (j + 1) from xv_add j 1]
          exact ih (j + 1) 1000 (by omega) (by omega) hn hs _ (s66 (by decide) (s66 (by decide) hK)) (xw_eq _ _ _ _) ((xw_ne2 (by decide)).trans ((xw_ne2 (by decide)).trans k7)) ((xw_ne2 (by decide)).trans ((xw_ne2 (by decide)).trans k8)) ((xw_ne2 (by decide)).trans (xw_eq _ _ _ _))
      · rw [if_neg (fun q => c ((dig_M (hT j)).mp q))]
        rw [if_neg c] at hs
        exact fin K j v hs hK k6 k7 k8 k9
  have key : ∀ m i, i + m = n → tS T n a = scA isB T n i → ∀ K : xI, xsm sLk J K → K 66 23 = Int32.ofNat i → h_X9_look_0 1 (qN sLk J L z (xCur n T a)) (0, 0) K L z := by
    intro m
    induction m with
    | zero =>
      intro i e hs K hK k6
      refine g_X9_look_0 (by decide) ?_
      have e : i = n := by omega
      subst e
      rw [scA_end] at hs
      rw [xw_ne2 (o := 66) (k := 26) (k' := 23) (by decide), xw_ne2 (o := 66) (k := 25) (k' := 23) (by decide), xw_ne2 (o := 66) (k := 26) (k' := 7) (by decide), xw_ne2 (o := 66) (k := 25) (k' := 7) (by decide), k6, (tp K hK).2.2.1, if_neg (fun q => absurd ((xv_lt (by omega) (by omega)).mp q) (Nat.lt_irrefl _)), if_pos rfl]
      refine ⟨rfl, _, rfl, s66 (by decide) (s66 (by decide) (s66 (by decide) hK)), ?_, ?_, ?_, ?_⟩
      · rw [xw_ne2 (by decide), xw_ne2 (by decide), xw_ne2 (by decide), k6]; unfold tE; rw [hs]; unfold kE; rw [if_pos (Nat.le_refl _)]
      · rw [xw_eq]; unfold tK; rw [hs]; unfold kK; rw [if_pos (Nat.le_refl _)]; rfl
      · rw [xw_ne2 (by decide), xw_ne2 (by decide), xw_eq, hs]
      · intro q
        unfold tK at q; rw [hs] at q; unfold kK at q; rw [if_pos (Nat.le_refl _)] at q
        exact absurd q (by decide)
    | succ m ih =>
      intro i e hs K hK k6
      refine g_X9_look_0 (by decide) ?_
      have hi : i < n := by omega
      have ti := hT i
      have b0 := (tp K hK).2.2.2 i hi
      have b1 : (xw (xw K 66 25 (Int32.ofNat i)) 66 26 0) 81 i = Int32.ofNat (T i) := by rw [xw_ne1 (by decide), xw_ne1 (by decide)]; exact b0
      rw [xw_ne2 (o := 66) (k := 26) (k' := 23) (by decide), xw_ne2 (o := 66) (k := 25) (k' := 23) (by decide), xw_ne2 (o := 66) (k := 26) (k' := 7) (by decide), xw_ne2 (o := 66) (k := 25) (k' := 7) (by decide), k6, (tp K hK).2.2.1, if_pos ((xv_lt (by omega) (by omega)).mpr hi), if_pos ((xv_in (by omega)).mpr (by omega))]
      simp only [xv_clamp (show i < 2147483648 by omega), b0, b1]
      rw [scA_at hi] at hs
      by_cases c : T i = 32
      · rw [if_pos (show Int32.ofNat (T i) = (32 : Int32) from by rw [c]; rfl), show Int32.ofNat i + 1 = Int32.ofNat (i + 1) from xv_add i 1]
        rw [if_pos (show isB (T i) = true from decide_eq_true c)] at hs
        exact ih (i + 1) (by omega) hs _ (s66 (by decide) hK) (xw_eq _ _ _ _)
      · rw [if_neg (show ¬ Int32.ofNat (T i) = (32 : Int32) from fun q => c ((xv_eq (b := 32) (by omega) (by decide)).mp q)), if_neg (fun q => by have := (xv_eq (by omega) (by omega)).mp q; omega), if_pos ((xv_in (by omega)).mpr (by omega))]
        rw [if_neg (show ¬ isB (T i) = true from fun q => c (of_decide_eq_true q))] at hs
        have hK2 : xsm sLk J (xw (xw K 66 25 (Int32.ofNat i)) 66 26 0) := s66 (by decide) (s66 (by decide) hK)
        by_cases d : isL (T i) = true
        · rw [if_pos ((let_M ti).mpr d)]
          exact lets i hi hs d m.succ i (by omega) rfl _ (s66 (by decide) hK2) ((xw_ne2 (by decide)).trans ((xw_ne2 (by decide)).trans ((xw_ne2 (by decide)).trans k6))) (xw_eq _ _ _ _) ((xw_ne2 (by decide)).trans ((xw_ne2 (by decide)).trans (xw_eq _ _ _ _)))
        · rw [if_neg (fun q => d ((let_M ti).mp q))]
          by_cases f : isD (T i) = true
          · rw [if_pos ((dig_M ti).mpr f)]
            exact digs i hi hs d f m.succ i 0 (by omega) (Nat.le_refl _) (Or.inl ⟨rfl, rfl⟩) rfl _ (s66 (by decide) hK2) ((xw_ne2 (by decide)).trans ((xw_ne2 (by decide)).trans ((xw_ne2 (by decide)).trans k6))) (xw_eq _ _ _ _) ((xw_ne2 (by decide)).trans ((xw_ne2 (by decide)).trans (xw_eq _ _ _ _))) ((xw_ne2 (by decide)).trans (xw_eq _ _ _ _))
          · rw [if_neg (fun q => f ((dig_M ti).mp q))]
            have fin : ∀ k : Nat, k = kK T n i → k ≠ 2 → qN sLk J L z (xCur n T a) none (xS (xw (xw (xw (xw K 66 25 (Int32.ofNat i)) 66 26 0) 66 24 (Int32.ofNat k)) 66 23 (xw (xw (xw K 66 25 (Int32.ofNat i)) 66 26 0) 66 24 (Int32.ofNat k) 66 23 + 1)) L z) := by
              intro k hk k2
              refine ⟨rfl, _, rfl, s66 (by decide) (s66 (by decide) hK2), ?_, ?_, ?_, ?_⟩
              · rw [xw_eq, xw_ne2 (by decide), xw_ne2 (by decide), xw_ne2 (by decide), k6, show Int32.ofNat i + 1 = Int32.ofNat (i + 1) from xv_add i 1]
                unfold tE; rw [hs]; unfold kE; rw [if_neg (by omega), if_neg d, if_neg f]
              · rw [xw_ne2 (by decide), xw_eq]; unfold tK; rw [hs, hk]
              · rw [xw_ne2 (by decide), xw_ne2 (by decide), xw_ne2 (by decide), xw_eq, hs]
              · intro q
                unfold tK at q; rw [hs, ← hk] at q
                exact absurd q k2
            by_cases g : T i = 59
            · rw [if_pos (show Int32.ofNat (T i) = (59 : Int32) from by rw [g]; rfl)]
              exact fin 3 (by unfold kK; rw [if_neg (by omega), if_neg d, if_neg f, if_pos g]) (by decide)
            · rw [if_neg (show ¬ Int32.ofNat (T i) = (59 : Int32) from fun q => g ((xv_eq (b := 59) (by omega) (by decide)).mp q))]
              exact fin 4 (by unfold kK; rw [if_neg (by omega), if_neg d, if_neg f, if_neg g]) (by decide)
  exact key (n - a) a (by omega) rfl J (xsm_refl _ _) ha
