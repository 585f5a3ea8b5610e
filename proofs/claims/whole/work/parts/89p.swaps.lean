/-! promises: handing, the fewest swaps -/
def rIn (σ : Nat → Nat) : Nat → Nat → Nat → Nat
  | 0, u, _ => u
  | f + 1, u, g => if u.testBit g = true then u else rIn σ f (u ||| 2 ^ g) (σ g)
def rOut (σ : Nat → Nat) (n : Nat) : Nat → Nat → Nat → Nat
  | 0, _, r => r
  | m + 1, u, r => if u.testBit (n - (m + 1)) = true then rOut σ n m u r else rOut σ n m (rIn σ 6 u (n - (m + 1))) (r + 1)
def rnA (σ : Nat → Nat) (n u r i : Nat) : Nat := rOut σ n (n - i) u r
theorem rnA_at {σ : Nat → Nat} {n u r i : Nat} (h : i < n) : rnA σ n u r i = if u.testBit i = true then rnA σ n u r (i + 1) else rnA σ n (rIn σ 6 u i) (r + 1) (i + 1) := by
  unfold rnA
  rw [show n - i = (n - (i + 1)) + 1 from by omega]
  show (if u.testBit (n - ((n - (i + 1)) + 1)) = true then _ else _) = _
  rw [show n - ((n - (i + 1)) + 1) = i from by omega]
theorem rnA_end {σ : Nat → Nat} {n u r : Nat} : rnA σ n u r n = r := by
  unfold rnA
  rw [Nat.sub_self]; rfl
theorem rOut_le {σ : Nat → Nat} {n : Nat} : ∀ m u r, rOut σ n m u r ≤ r + m
  | 0, _, r => Nat.le_refl _
  | m + 1, u, r => by
    show (if u.testBit (n - (m + 1)) = true then rOut σ n m u r else rOut σ n m (rIn σ 6 u (n - (m + 1))) (r + 1)) ≤ _
    have h1 := rOut_le (σ := σ) (n := n) m u r
    have h2 := rOut_le (σ := σ) (n := n) m (rIn σ 6 u (n - (m + 1))) (r + 1)
    split <;> omega
theorem rnA_le {σ : Nat → Nat} {n : Nat} : rnA σ n 0 0 0 ≤ n := by
  have := rOut_le (σ := σ) (n := n) (n - 0) 0 0
  unfold rnA
  omega
theorem or_64 {u g : Nat} (hu : u < 64) (hg : g < 6) : u ||| 2 ^ g < 64 := Nat.or_lt_two_pow (n := 6) hu (Nat.pow_lt_pow_right (by decide) hg)
theorem rIn_lt {σ : Nat → Nat} {n : Nat} (n6 : n ≤ 6) (hσ : ∀ g, g < n → σ g < n) : ∀ f u g, u < 64 → g < n → rIn σ f u g < 64
  | 0, _, _, hu, _ => hu
  | f + 1, u, g, hu, hg => by
    show (if u.testBit g = true then u else rIn σ f (u ||| 2 ^ g) (σ g)) < 64
    have := rIn_lt n6 hσ f (u ||| 2 ^ g) (σ g) (or_64 hu (by omega)) (hσ g hg)
    split <;> omega
theorem pc64 : ∀ u, u < 64 → ∀ g, g < 6 → u.testBit g = false → pcn (u ||| 2 ^ g) 6 = pcn u 6 + 1 := by decide
theorem pc64f : ∀ u, u < 64 → 6 ≤ pcn u 6 → ∀ g, g < 6 → u.testBit g = true := by decide
/-- the class's shift, its bit -/
theorem sh_bit {u g : Nat} (hu : u < 64) (hg : g < 6) : (Int32.ofNat u >>> (Int32.ofNat g &&& 31)) &&& 1 = Int32.ofNat (u >>> g &&& 1) := by
  simp (disch := omega) only [xl_0, xl_1, xl_2, xl_3, xl_4, xl_5, xl_6, xl_7, xl_8, xl_9, xl_10, xl_15, xl_18, xl_24, xl_31, xl_32, xl_36, xl_40, xl_48, xl_63, xl_64, xl_144, xl_250, xl_320, xl_720, xl_721, xl_1000, xl_1023, xl_1024, xv_lt, xv_eq, xv_in, xv_clamp, xv_add, xv_mul, xv_dec, xv_div, xv_mod, xv_m1, xv_m1', xv_and, xv_or, xv_shl, xv_shr, xv_bit0, xv_bit1]
theorem sh_one {g : Nat} (hg : g < 6) : (1 : Int32) <<< (Int32.ofNat g &&& 31) = Int32.ofNat (2 ^ g) := by
  simp (disch := omega) only [xl_0, xl_1, xl_2, xl_3, xl_4, xl_5, xl_6, xl_7, xl_8, xl_9, xl_10, xl_15, xl_18, xl_24, xl_31, xl_32, xl_36, xl_40, xl_48, xl_63, xl_64, xl_144, xl_250, xl_320, xl_720, xl_721, xl_1000, xl_1023, xl_1024, xv_lt, xv_eq, xv_in, xv_clamp, xv_add, xv_mul, xv_dec, xv_div, xv_mod, xv_m1, xv_m1', xv_and, xv_or, xv_shl, xv_shr, xv_bit0, xv_bit1, Nat.one_mul]
theorem sh_free {u g : Nat} (hu : u < 64) (hg : g < 6) : ((Int32.ofNat u >>> (Int32.ofNat g &&& 31)) &&& 1 = 0) ↔ u.testBit g = false := by
  rw [sh_bit hu hg]; exact xv_bit0
theorem sh_took {u g : Nat} (hu : u < 64) (hg : g < 6) : ((Int32.ofNat u >>> (Int32.ofNat g &&& 31)) &&& 1 = 1) ↔ u.testBit g = true := by
  rw [sh_bit hu hg]; exact xv_bit1
/-- a handing: each place once -/
def hnd (n : Nat) (pl : Nat → Nat) : Prop := (∀ i, i < n → pl i < n) ∧ ∀ i, i < n → ∀ j, j < i → pl j ≠ pl i
def hold (pl : Nat → Nat) : Nat → Nat → Nat
  | 0, _ => 0
  | k + 1, p => if pl k = p then k else hold pl k p
theorem fcnt_no {f : Nat → Nat} {s : Nat} : ∀ k, (∀ i, i < k → f i ≠ s) → fcnt f s k = 0
  | 0, _ => rfl
  | k + 1, h => by
    simp only [fcnt]
    rw [fcnt_no k (fun i hi => h i (by omega)), if_neg (h k (by omega))]
theorem fcnt_inj1 {f : Nat → Nat} {s : Nat} : ∀ k, (∀ i, i < k → ∀ j, j < i → f j ≠ f i) → fcnt f s k ≤ 1
  | 0, _ => by simp [fcnt]
  | k + 1, h => by
    simp only [fcnt]
    have ih := fcnt_inj1 (s := s) k (fun i hi => h i (by omega))
    by_cases e : f k = s
    · rw [if_pos e, fcnt_no k (fun i hi => by rw [← e]; exact h k (by omega) i hi)]
      omega
    · rw [if_neg e]; omega
theorem hnd_hit {n : Nat} {pl : Nat → Nat} (n6 : n ≤ 6) (h : hnd n pl) {p : Nat} (hp : p < n) : ∃ g, g < n ∧ pl g = p := by
  by_cases q : ∃ g, g < n ∧ pl g = p
  · exact q
  · exfalso
    have h0 : fcnt pl p n = 0 := fcnt_no n (fun i hi e => q ⟨i, hi, e⟩)
    have hs := fcnt_sum (f := pl) n (fun i hi => by have := h.1 i hi; omega)
    rw [mixS_6] at hs
    have h1 : ∀ s, fcnt pl s n ≤ 1 := fun s => fcnt_inj1 n h.2
    have hz : ∀ s, n ≤ s → fcnt pl s n = 0 := fun s hs => fcnt_no n (fun i hi e => by have := h.1 i hi; omega)
    have a0 := h1 0
    have a1 := h1 1
    have a2 := h1 2
    have a3 := h1 3
    have a4 := h1 4
    have a5 := h1 5
    have b0 := hz 0
    have b1 := hz 1
    have b2 := hz 2
    have b3 := hz 3
    have b4 := hz 4
    have b5 := hz 5
    have hp' : p = 0 ∨ p = 1 ∨ p = 2 ∨ p = 3 ∨ p = 4 ∨ p = 5 := by omega
    rcases hp' with rfl | rfl | rfl | rfl | rfl | rfl <;> omega
theorem hold_of {pl : Nat → Nat} {p : Nat} : ∀ k, (∃ g, g < k ∧ pl g = p) → hold pl k p < k ∧ pl (hold pl k p) = p
  | 0, h => by obtain ⟨g, a, _⟩ := h; omega
  | k + 1, h => by
    show (if pl k = p then k else hold pl k p) < k + 1 ∧ pl (if pl k = p then k else hold pl k p) = p
    by_cases e : pl k = p
    · rw [if_pos e]; exact ⟨by omega, e⟩
    · rw [if_neg e]
      obtain ⟨g, a, b⟩ := h
      have := hold_of k ⟨g, by
        by_cases c : g = k
        · rw [c] at b; exact absurd b e
        · omega, b⟩
      exact ⟨by omega, this.2⟩
theorem hold_ok {n : Nat} {pl : Nat → Nat} (n6 : n ≤ 6) (h : hnd n pl) {p : Nat} (hp : p < n) : hold pl n p < n ∧ pl (hold pl n p) = p := hold_of n (hnd_hit n6 h hp)
theorem hnd_inj {n : Nat} {pl : Nat → Nat} (h : hnd n pl) {i j : Nat} (hi : i < n) (hj : j < n) (e : pl i = pl j) : i = j := by
  by_cases c : i < j
  · exact absurd e (h.2 j hj i c)
  · by_cases d : j < i
    · exact absurd e.symm (h.2 i hi j d)
    · omega
/-- the class: the rounds of those who pass their places on -/
theorem f_hold {n g : Nat} {J : xI} {L : xL} {tk hd : Nat → Nat} (hn : J 10 0 = Int32.ofNat n) (n6 : n ≤ 6) (hg : g < n) (h55 : J 55 g = Int32.ofNat (tk g)) (ht : tk g < n) (h54 : ∀ p, p < n → J 54 p = Int32.ofNat (hd p)) : f_X0_holderOfTaken J L (Int32.ofNat g) = Int32.ofNat (hd (tk g)) := by
  unfold f_X0_holderOfTaken
  rw [if_neg (xv_neg (by omega)), if_pos (show Int32.ofNat g < (6 : Int32) from (xv_lt (b := 6) (by omega) (by decide)).mpr (by omega)), if_pos ((xv_in (by omega)).mpr (by omega)), xv_clamp (by omega), h55, if_pos ((xp_hasPlace hn n6).mpr (by rw [xv_int (by omega)]; omega)), if_pos ((xv_in (by omega)).mpr (by omega)), xv_clamp (by omega), h54 _ ht]
theorem t_roundsX {n : Nat} {J : xI} {L : xL} {z : Bool × Bool × Nat} {tk hd : Nat → Nat} (hn : J 10 0 = Int32.ofNat n) (n6 : n ≤ 6) (h55 : ∀ i, i < n → J 55 i = Int32.ofNat (tk i)) (ht : ∀ i, i < n → tk i < n) (h54 : ∀ p, p < n → J 54 p = Int32.ofNat (hd p)) (hh : ∀ p, p < n → hd p < n) : xCd 3 8 [.ref 50] (xS J L z) (qP J L z (Int32.ofNat (rnA (fun g => hd (tk g)) n 0 0 0))) := by
  refine c_X0_roundsOfTakes (d := 2) (g_X0_roundsOfTakes_0 (by decide) ?_)
  have inner : ∀ (F : xQ) (r a : Nat) f i u g, i + f = 6 → u < 64 → g < n → h_X0_roundsOfTakes_6 2 F (0, 0) J L z (Int32.ofNat r) (Int32.ofNat (rIn (fun g => hd (tk g)) f u g)) (Int32.ofNat (a + 1)) → h_X0_roundsOfTakes_34 2 F (0, 0) J L z (Int32.ofNat r) (Int32.ofNat u) (Int32.ofNat a) (Int32.ofNat g) (Int32.ofNat i) := by
    intro F r a f
    induction f with
    | zero =>
      intro i u g e hu hg h
      refine g_X0_roundsOfTakes_34 (by decide) ?_
      rw [if_neg (show ¬ Int32.ofNat i < (6 : Int32) from fun q => by have := (xv_lt (b := 6) (by omega) (by decide)).mp q; omega), show Int32.ofNat a + 1 = Int32.ofNat (a + 1) from xv_add a 1]
      exact h
    | succ f ih =>
      intro i u g e hu hg h
      refine g_X0_roundsOfTakes_34 (by decide) ?_
      rw [if_pos (show Int32.ofNat i < (6 : Int32) from (xv_lt (b := 6) (by omega) (by decide)).mpr (by omega)), show Int32.ofNat a + 1 = Int32.ofNat (a + 1) from xv_add a 1]
      have hs := sh_free (u := u) (g := g) hu (by omega)
      have st : rIn (fun g => hd (tk g)) (f + 1) u g = if u.testBit g = true then u else rIn (fun g => hd (tk g)) f (u ||| 2 ^ g) (hd (tk g)) := rfl
      rw [st] at h
      cases b : u.testBit g
      · rw [if_pos (hs.mpr b), f_hold hn n6 hg (h55 g hg) (ht g hg) h54, sh_one (by omega), xv_or, show Int32.ofNat i + 1 = Int32.ofNat (i + 1) from xv_add i 1]
        rw [if_neg (by rw [b]; decide)] at h
        exact ih (i + 1) _ _ (by omega) (or_64 hu (by omega)) (hh _ (ht g hg)) h
      · rw [if_neg (fun q => by have := hs.mp q; rw [b] at this; exact absurd this (by decide))]
        rw [if_pos b] at h
        exact h
  have key : ∀ i, i ≤ n → ∀ u r, u < 64 → rnA (fun g => hd (tk g)) n u r i = rnA (fun g => hd (tk g)) n 0 0 0 → h_X0_roundsOfTakes_6 2 (qP J L z (Int32.ofNat (rnA (fun g => hd (tk g)) n 0 0 0))) (0, 0) J L z (Int32.ofNat r) (Int32.ofNat u) (Int32.ofNat i) := by
    refine xcount _ n ?_ ?_
    · intro i hi KK u r hu hw
      refine g_X0_roundsOfTakes_6 (by decide) ?_
      rw [if_pos (show Int32.ofNat i < J 10 0 by rw [hn]; exact (xv_lt (by omega) (by omega)).mpr hi)]
      have hs := sh_free (u := u) (g := i) hu (by omega)
      have hl := rIn_lt (σ := fun g => hd (tk g)) n6 (fun g hg => hh _ (ht g hg)) 6 u i hu hi
      rw [rnA_at hi] at hw
      cases b : u.testBit i
      · rw [if_pos (hs.mpr b), show Int32.ofNat r + 1 = Int32.ofNat (r + 1) from xv_add r 1]
        rw [if_neg (by rw [b]; decide)] at hw
        exact inner _ (r + 1) i 6 0 u i rfl hu hi (KK _ _ hl hw)
      · rw [if_neg (fun q => by have := hs.mp q; rw [b] at this; exact absurd this (by decide))]
        rw [if_pos b] at hw
        refine inner _ r i 6 0 u i rfl hu hi ?_
        have st : rIn (fun g => hd (tk g)) 6 u i = if u.testBit i = true then u else rIn (fun g => hd (tk g)) 5 (u ||| 2 ^ i) (hd (tk i)) := rfl
        rw [st, if_pos b]
        exact KK _ _ hu hw
    · intro u r hu hw
      refine g_X0_roundsOfTakes_6 (by decide) ?_
      rw [if_neg (show ¬ Int32.ofNat n < J 10 0 by rw [hn]; exact fun q => absurd ((xv_lt (by omega) (by omega)).mp q) (Nat.lt_irrefl _))]
      rw [rnA_end] at hw
      rw [← hw]
      exact ⟨rfl, rfl⟩
  exact key 0 (Nat.zero_le _) 0 0 (by decide) rfl
/-- the reference -/
theorem t_whoHas {n g p : Nat} {K : xI} {L : xL} {z : Bool × Bool × Nat} {pl : Nat → Nat} (n6 : n ≤ 6) (h109 : ∀ i, i < n → K 109 i = Int32.ofNat (pl i)) (h : hnd n pl) (hg : g < n) (e : pl g = p) : xCd 1 274 [.ref 66, .int (Int32.ofNat p)] (xS K L z) (qP K L z (Int32.ofNat g)) := by
  refine c_X9_whoHas (d := 0) (g_X9_whoHas_0 (by decide) ?_)
  have gp := h.1 g hg
  have key : ∀ i, i ≤ g → h_X9_whoHas_2 0 (qP K L z (Int32.ofNat g)) (0, 0) K L z (Int32.ofNat p) (Int32.ofNat i) := by
    refine xcount _ g ?_ ?_
    · intro i hi KK
      refine g_X9_whoHas_2 (by decide) ?_
      have q := h.2 g hg i hi
      have ip := h.1 i (by omega)
      rw [if_pos ((xv_in (by omega)).mpr (by omega)), xv_clamp (by omega), h109 i (by omega), if_neg (fun x => q (by rw [e]; exact (xv_eq (by omega) (by omega)).mp x)), show Int32.ofNat i + 1 = Int32.ofNat (i + 1) from xv_add i 1]
      exact KK
    · refine g_X9_whoHas_2 (by decide) ?_
      rw [if_pos ((xv_in (by omega)).mpr (by omega)), xv_clamp (by omega), h109 g hg, e, if_pos rfl]
      exact ⟨rfl, rfl⟩
  exact key 0 (Nat.zero_le _)
theorem t_swapsTo {n : Nat} {K : xI} {L : xL} {z : Bool × Bool × Nat} {pl tk : Nat → Nat} (hn : K 66 9 = Int32.ofNat n) (n6 : n ≤ 6) (h109 : ∀ i, i < n → K 109 i = Int32.ofNat (pl i)) (h : hnd n pl) (h111 : ∀ i, i < n → K 111 i = Int32.ofNat (tk i)) (ht : ∀ i, i < n → tk i < n) : xCd 2 273 [.ref 66] (xS K L z) (qP K L z (Int32.ofNat (n - rnA (fun g => hold pl n (tk g)) n 0 0 0))) := by
  refine c_X9_swapsTo (d := 1) (g_X9_swapsTo_0 (by decide) ?_)
  have hh : ∀ g, g < n → hold pl n (tk g) < n := fun g hg => (hold_ok n6 h (ht g hg)).1
  have inner : ∀ (F : xQ) (a1 : Int32) (a : Nat) f u g, 6 - pcn u 6 ≤ f → u < 64 → g < n → h_X9_swapsTo_9 1 F (0, 0) K L z a1 (Int32.ofNat (rIn (fun g => hold pl n (tk g)) f u g)) (Int32.ofNat (a + 1)) → h_X9_swapsTo_31 1 F (0, 0) K L z a1 (Int32.ofNat u) (Int32.ofNat a) (Int32.ofNat g) := by
    intro F a1 a f
    induction f with
    | zero =>
      intro u g e hu hg h'
      refine g_X9_swapsTo_31 (by decide) ?_
      have b := pc64f u hu (by omega) g (by omega)
      rw [if_pos ((has_iff (by omega) (by omega)).mpr b), show Int32.ofNat a + 1 = Int32.ofNat (a + 1) from xv_add a 1]
      exact h'
    | succ f ih =>
      intro u g e hu hg h'
      refine g_X9_swapsTo_31 (by decide) ?_
      have hs := has_iff (I := K) (L := L) (u := u) (p := g) (by omega) (by omega)
      have st : rIn (fun g => hold pl n (tk g)) (f + 1) u g = if u.testBit g = true then u else rIn (fun g => hold pl n (tk g)) f (u ||| 2 ^ g) (hold pl n (tk g)) := rfl
      rw [st] at h'
      cases b : u.testBit g
      · rw [if_neg (fun q => by have := hs.mp q; rw [b] at this; exact absurd this (by decide)), if_pos ((xv_in (by omega)).mpr (by omega)), xv_clamp (by omega), h111 g hg, sh_one (by omega), xv_or]
        rw [if_neg (by rw [b]; decide)] at h'
        refine xuse (t_whoHas n6 h109 h (hh g hg) (hold_ok n6 h (ht g hg)).2) (by decide) ?_
        rintro _ _ ⟨rfl, rfl⟩
        refine g_X9_swapsTo_58 (by decide) ?_
        have := pc64 u hu g (by omega) b
        exact ih _ _ (by omega) (or_64 hu (by omega)) (hh g hg) h'
      · rw [if_pos (hs.mpr b), show Int32.ofNat a + 1 = Int32.ofNat (a + 1) from xv_add a 1]
        rw [if_pos b] at h'
        exact h'
  have key : ∀ i, i ≤ n → ∀ u r, u < 64 → r ≤ i → rnA (fun g => hold pl n (tk g)) n u r i = rnA (fun g => hold pl n (tk g)) n 0 0 0 → h_X9_swapsTo_9 1 (qP K L z (Int32.ofNat (n - rnA (fun g => hold pl n (tk g)) n 0 0 0))) (0, 0) K L z (Int32.ofNat (n - r)) (Int32.ofNat u) (Int32.ofNat i) := by
    refine xcount _ n ?_ ?_
    · intro i hi KK u r hu hr hw
      refine g_X9_swapsTo_9 (by decide) ?_
      rw [if_pos (show Int32.ofNat i < K 66 9 by rw [hn]; exact (xv_lt (by omega) (by omega)).mpr hi)]
      have hs := has_iff (I := K) (L := L) (u := u) (p := i) (by omega) (by omega)
      have hl := rIn_lt (σ := fun g => hold pl n (tk g)) n6 hh 6 u i hu hi
      rw [rnA_at hi] at hw
      cases b : u.testBit i
      · rw [if_neg (fun q => by have := hs.mp q; rw [b] at this; exact absurd this (by decide)), show Int32.ofNat (n - r) + (-1 : Int32) = Int32.ofNat (n - r - 1) from xv_dec (b := 1) (by omega), show n - r - 1 = n - (r + 1) from by omega]
        rw [if_neg (by rw [b]; decide)] at hw
        exact inner _ _ i 6 u i (by omega) hu hi (KK _ _ hl (by omega) hw)
      · rw [if_pos (hs.mpr b), show Int32.ofNat i + 1 = Int32.ofNat (i + 1) from xv_add i 1]
        rw [if_pos b] at hw
        exact KK _ _ hu (by omega) hw
    · intro u r hu hr hw
      refine g_X9_swapsTo_9 (by decide) ?_
      rw [if_neg (show ¬ Int32.ofNat n < K 66 9 by rw [hn]; exact fun q => absurd ((xv_lt (by omega) (by omega)).mp q) (Nat.lt_irrefl _))]
      rw [rnA_end] at hw
      rw [← hw]
      exact ⟨rfl, rfl⟩
  rw [hn]
  exact key 0 (Nat.zero_le _) 0 0 (by decide) (Nat.le_refl _) rfl
/-- all ways to give the guests what suits, one behind the other -/
def foldF (f : Nat → Int32 → Int32) : Nat → Nat → Int32 → Int32
  | 0, _, w => w
  | m + 1, p, w => foldF f m (p + 1) (f p w)
theorem foldF_at {f : Nat → Int32 → Int32} {n p : Nat} {w : Int32} (h : p < n) : foldF f (n - p) p w = foldF f (n - (p + 1)) (p + 1) (f p w) := by
  rw [show n - p = (n - (p + 1)) + 1 from by omega]; rfl
def swU (w : Int32) (s : Nat) : Int32 := if w = (-1 : Int32) then Int32.ofNat s else if Int32.ofNat s < w then Int32.ofNat s else w
def swD (n : Nat) (hd : Nat → Nat) (S : Nat → Nat → Bool) : Nat → Nat → (Nat → Nat) → Int32 → Int32
  | 0, _, tk, w => swU w (n - rnA (fun g => hd (tk g)) n 0 0 0)
  | m + 1, u, tk, w => foldF (fun p w => if u.testBit p = false ∧ S (n - (m + 1)) p = true then swD n hd S m (u ||| 2 ^ p) (fun j => if j = n - (m + 1) then p else tk j) w else w) n 0 w
theorem min32 (a b : Int32) : (if a < b then a else b) = if b < a then b else a := by
  have h1 := @Int32.lt_iff_toInt_lt a b
  have h2 := @Int32.lt_iff_toInt_lt b a
  by_cases h : a < b
  · rw [if_pos h, if_neg (fun q => by have := h1.mp h; have := h2.mp q; omega)]
  · by_cases q : b < a
    · rw [if_neg h, if_pos q]
    · rw [if_neg h, if_neg q]
      have h3 : ¬ a.toInt < b.toInt := fun x => h (h1.mpr x)
      have h4 : ¬ b.toInt < a.toInt := fun x => q (h2.mpr x)
      exact Int32.toInt_inj.mp (by omega)
def suitS (A : xAb) (g p : Nat) : Bool := decide (suitA A g p)
def scrSX : Nat → Nat → Prop := fun o k => o = 55 ∨ (o = 50 ∧ k = 7)
theorem t_tryX {A : xAb} {J : xI} {L : xL} {z : Bool × Bool × Nat} {hd : Nat → Nat} (hA : abOK A) (hX : xTX J 10 A) (h54 : ∀ p, p < ab_n A → J 54 p = Int32.ofNat (hd p)) (hh : ∀ p, p < ab_n A → hd p < ab_n A) : ∀ m g, g + m = ab_n A → ∀ (K : xI) (u : Nat) (tk : Nat → Nat) (w : Int32), xsm scrSX J K → K 50 7 = w → (∀ j, j < g → K 55 j = Int32.ofNat (tk j)) → (∀ j, j < g → tk j < ab_n A) → u < 64 → xCd (m + m + 4) 7 [.ref 50, .int (Int32.ofNat g), .int (Int32.ofNat u)] (xS K L z) (fun r τ => r = none ∧ ∃ K', τ = xS K' L z ∧ xsm scrSX J K' ∧ K' 50 7 = swD (ab_n A) hd (suitS A) m u tk w ∧ ∀ j, j < g → K' 55 j = Int32.ofNat (tk j)) := by
  have h6 := hA.1.2
  have hn : ∀ K : xI, xsm scrSX J K → K 10 0 = Int32.ofNat (ab_n A) := fun K hK => (hK 10 0 (by unfold scrSX; omega)).trans hX.1.1
  have k54 : ∀ K : xI, xsm scrSX J K → ∀ p, p < ab_n A → K 54 p = Int32.ofNat (hd p) := fun K hK p hp => (hK 54 p (by unfold scrSX; omega)).trans (h54 p hp)
  have kX : ∀ K : xI, xsm scrSX J K → xTX K 10 A := fun K hK => xTX_sm hK (fun k hk => by unfold scrSX; omega) (fun o a b k => by unfold scrSX; omega) hX
  intro m
  induction m with
  | zero =>
    intro g hg K u tk w hK hw h55 ht hu
    refine c_X0_tryPlaces (d := 3) (g_X0_tryPlaces_0 (by decide) ?_)
    have e : g = ab_n A := by omega
    subst e
    rw [hn K hK, if_neg (show ¬ Int32.ofNat (ab_n A) < Int32.ofNat (ab_n A) from fun q => absurd ((xv_lt (by omega) (by omega)).mp q) (Nat.lt_irrefl _))]
    refine xuse (t_roundsX (hn K hK) h6 h55 ht (k54 K hK) hh) (by decide) ?_
    rintro _ _ ⟨rfl, rfl⟩
    refine g_X0_tryPlaces_31 (by decide) ?_
    have hr := rnA_le (σ := fun g => hd (tk g)) (n := ab_n A)
    have es : Int32.ofNat (ab_n A) - Int32.ofNat (rnA (fun g => hd (tk g)) (ab_n A) 0 0 0) = Int32.ofNat (ab_n A - rnA (fun g => hd (tk g)) (ab_n A) 0 0 0) := xv_sub hr
    rw [es, hw]
    have sv : swD (ab_n A) hd (suitS A) 0 u tk w = swU w (ab_n A - rnA (fun g => hd (tk g)) (ab_n A) 0 0 0) := rfl
    have fin : ∀ v : Int32, v = swU w (ab_n A - rnA (fun g => hd (tk g)) (ab_n A) 0 0 0) → (none : Option Value) = none ∧ ∃ K', xS (xw K 50 7 v) L z = xS K' L z ∧ xsm scrSX J K' ∧ K' 50 7 = swD (ab_n A) hd (suitS A) 0 u tk w ∧ ∀ j, j < ab_n A → K' 55 j = Int32.ofNat (tk j) := fun v hv =>
      ⟨rfl, _, rfl, xsm_xw (Or.inr ⟨rfl, rfl⟩) hK, by rw [xw_eq, sv]; exact hv, fun j hj => by rw [xw_ne1 (by decide)]; exact h55 j hj⟩
    by_cases c : w = (-1 : Int32)
    · rw [if_pos c]
      exact fin _ (by unfold swU; rw [if_pos c])
    · rw [if_neg c]
      exact fin _ (by unfold swU; rw [if_neg c]; exact min32 _ _)
  | succ m ih =>
    intro g hg K u tk w hK hw h55 ht hu
    refine c_X0_tryPlaces (g_X0_tryPlaces_0 (by omega) ?_)
    rw [hn K hK, if_pos (show Int32.ofNat g < Int32.ofNat (ab_n A) from (xv_lt (by omega) (by omega)).mpr (by omega)), if_pos (show Int32.ofNat g < (6 : Int32) from (xv_lt (b := 6) (by omega) (by decide)).mpr (by omega))]
    have hg2 : ab_n A - (m + 1) = g := by omega
    have sv : swD (ab_n A) hd (suitS A) (m + 1) u tk w = foldF (fun p w => if u.testBit p = false ∧ suitS A (ab_n A - (m + 1)) p = true then swD (ab_n A) hd (suitS A) m (u ||| 2 ^ p) (fun j => if j = ab_n A - (m + 1) then p else tk j) w else w) (ab_n A) 0 w := rfl
    rw [hg2] at sv
    rw [sv]
    have key : ∀ p, p ≤ ab_n A → ∀ (K : xI) (w' : Int32), xsm scrSX J K → K 50 7 = w' → (∀ j, j < g → K 55 j = Int32.ofNat (tk j)) → foldF (fun p w => if u.testBit p = false ∧ suitS A g p = true then swD (ab_n A) hd (suitS A) m (u ||| 2 ^ p) (fun j => if j = g then p else tk j) w else w) (ab_n A - p) p w' = foldF (fun p w => if u.testBit p = false ∧ suitS A g p = true then swD (ab_n A) hd (suitS A) m (u ||| 2 ^ p) (fun j => if j = g then p else tk j) w else w) (ab_n A) 0 w → h_X0_tryPlaces_60 (m + 1 + (m + 1) + 3) (fun r τ => r = none ∧ ∃ K', τ = xS K' L z ∧ xsm scrSX J K' ∧ K' 50 7 = foldF (fun p w => if u.testBit p = false ∧ suitS A g p = true then swD (ab_n A) hd (suitS A) m (u ||| 2 ^ p) (fun j => if j = g then p else tk j) w else w) (ab_n A) 0 w ∧ ∀ j, j < g → K' 55 j = Int32.ofNat (tk j)) (0, 0) K L z (Int32.ofNat g) (Int32.ofNat u) (Int32.ofNat p) := by
      refine xcount _ (ab_n A) ?_ ?_
      · intro p hp KK K w' hK hw' h55 hf
        refine g_X0_tryPlaces_60 (by omega) ?_
        rw [if_pos (show Int32.ofNat p < K 10 0 by rw [hn K hK]; exact (xv_lt (by omega) (by omega)).mpr hp)]
        rw [foldF_at hp] at hf
        have hs := sh_took (u := u) (g := p) hu (by omega)
        have ps := p_suits (L := L) (g := g) (p := p) (kX K hK) (by omega) (by omega)
        refine c_X0_tryPlace (d := m + 1 + (m + 1) + 2) (g_X0_tryPlace_0 (by omega) ?_)
        rw [if_neg (xv_neg (by omega)), if_pos (show Int32.ofNat g < (6 : Int32) from (xv_lt (b := 6) (by omega) (by decide)).mpr (by omega))]
        cases b : u.testBit p
        · rw [if_neg (fun q => by have := hs.mp q; rw [b] at this; exact absurd this (by decide))]
          by_cases c : suitA A g p
          · rw [if_pos (ps.mpr c), if_pos ((xv_in (by omega)).mpr (by omega)), xv_clamp (by omega), sh_one (by omega), xv_or, show Int32.ofNat g + 1 = Int32.ofNat (g + 1) from xv_add g 1]
            rw [if_pos ⟨b, decide_eq_true c⟩] at hf
            refine xuse (ih (g + 1) (by omega) (xw K 55 g (Int32.ofNat p)) (u ||| 2 ^ p) (fun j => if j = g then p else tk j) w' (xsm_xw (Or.inl rfl) hK) ((xw_ne1 (by decide)).trans hw') ?_ ?_ (or_64 hu (by omega))) (by omega) ?_
            · intro j hj
              show _ = Int32.ofNat (if j = g then p else tk j)
              by_cases d : j = g
              · rw [if_pos d, d, xw_eq]
              · rw [if_neg d, xw_ne2 d]; exact h55 j (by omega)
            · intro j hj
              show (if j = g then p else tk j) < ab_n A
              by_cases d : j = g
              · rw [if_pos d]; exact hp
              · rw [if_neg d]; exact ht j (by omega)
            · rintro _ _ ⟨rfl, K', rfl, hK', k7, k55⟩
              refine g_X0_tryPlace_51 (by omega) ?_
              refine g_X0_tryPlaces_78 (by omega) ?_
              rw [show Int32.ofNat p + 1 = Int32.ofNat (p + 1) from xv_add p 1]
              refine KK K' _ hK' k7 (fun j hj => ?_) hf
              have := k55 j (by omega)
              rw [this]
              show Int32.ofNat (if j = g then p else tk j) = _
              rw [if_neg (by omega)]
          · rw [if_neg (fun q => c (ps.mp q))]
            refine g_X0_tryPlaces_78 (by omega) ?_
            rw [show Int32.ofNat p + 1 = Int32.ofNat (p + 1) from xv_add p 1]
            rw [if_neg (fun q => c (of_decide_eq_true q.2))] at hf
            exact KK K w' hK hw' h55 hf
        · rw [if_pos (hs.mpr b)]
          refine g_X0_tryPlaces_78 (by omega) ?_
          rw [show Int32.ofNat p + 1 = Int32.ofNat (p + 1) from xv_add p 1]
          rw [if_neg (fun q => by have := q.1; rw [b] at this; exact absurd this (by decide))] at hf
          exact KK K w' hK hw' h55 hf
      · intro K w' hK hw' h55 hf
        refine g_X0_tryPlaces_60 (by omega) ?_
        rw [if_neg (show ¬ Int32.ofNat (ab_n A) < K 10 0 by rw [hn K hK]; exact fun q => absurd ((xv_lt (by omega) (by omega)).mp q) (Nat.lt_irrefl _))]
        rw [Nat.sub_self] at hf
        exact ⟨rfl, K, rfl, hK, hw'.trans hf, h55⟩
    exact key 0 (Nat.zero_le _) K w hK hw h55 rfl
