def qsX (nq : Nat) (lab : Nat → Nat → Nat) : (Nat → Nat) → Prop := fun l => ∃ q, q < nq ∧ l = lab q
theorem pcn_eq0 {y : Nat} : ∀ n, y < 2 ^ n → pcn y n = 0 → y = 0 := by
  intro n hy h
  refine Nat.eq_of_testBit_eq fun i => ?_
  rw [Nat.zero_testBit]
  have key : ∀ m, pcn y m = 0 → ∀ j, j < m → y.testBit j = false := by
    intro m
    induction m with
    | zero => intro _ j hj; omega
    | succ m ih =>
      intro hm j hj
      simp only [pcn] at hm
      by_cases e : j = m
      · subst e
        cases c : y.testBit j with
        | false => rfl
        | true => rw [c] at hm; simp at hm
      · exact ih (by omega) j (by omega)
  by_cases c : i < n
  · exact key n h i c
  · exact Nat.testBit_lt_two_pow (Nat.lt_of_lt_of_le hy (Nat.pow_le_pow_right (by decide) (by omega)))
theorem one_cond {x m : Nat} (hm : m ≤ 24) (hx : x < 2 ^ m) : ((Int32.ofNat x &&& (Int32.ofNat x - 1)) = 0) ↔ oneS (mS x) := by
  have h24 : 2 ^ m ≤ 16777216 := Nat.pow_le_pow_right (show 0 < 2 by decide) hm
  rw [oneS_iff hx]
  by_cases c : x = 0
  · subst c
    rw [pcn_0]
    exact ⟨fun _ => by decide, fun _ => by decide⟩
  · rw [show Int32.ofNat x - 1 = Int32.ofNat (x - 1) from xv_sub (b := 1) (by omega), xv_and, show (0 : Int32) = Int32.ofNat 0 from rfl, xv_eq (Nat.lt_of_le_of_lt Nat.and_le_left (by omega)) (by decide)]
    have := pcn_low (show 0 < x by omega) hx
    constructor
    · intro h
      rw [h, pcn_0] at this
      omega
    · intro h
      exact pcn_eq0 m (Nat.lt_of_le_of_lt Nat.and_le_left hx) (by omega)
theorem t_mostTold {I : xI} {L : xL} {z : Bool × Bool × Nat} {mx b : Nat} (h6 : I 43 6 = Int32.ofNat mx) (hb : b ≤ 4) : xCd 1 32 [.ref 43, .int (Int32.ofNat b)] (xS I L z) (qP I L z (Int32.ofNat (mx ^ b))) := by
  refine c_X1_mostTold (g_X1_mostTold_0 (by decide) ?_)
  have key : ∀ i, i ≤ b → h_X1_mostTold_4 0 (qP I L z (Int32.ofNat (mx ^ b))) (0, 0) I L z (Int32.ofNat b) (Int32.ofNat (mx ^ i)) (Int32.ofNat i) := by
    refine xcount _ b ?_ ?_
    · intro i hi K
      refine g_X1_mostTold_4 (by decide) ?_
      rw [if_pos ((xv_lt (by omega) (by omega)).mpr hi), if_pos (show Int32.ofNat i < (4 : Int32) from (xv_lt (b := 4) (by omega) (by decide)).mpr (by omega)), h6, xv_mul, show Int32.ofNat i + 1 = Int32.ofNat (i + 1) from xv_add i 1]
      rw [Nat.pow_succ] at K
      exact K
    · refine g_X1_mostTold_4 (by decide) ?_
      rw [if_neg (fun q => Nat.lt_irrefl _ ((xv_lt (by omega) (by omega)).mp q))]
      exact ⟨rfl, rfl⟩
  exact key 0 (Nat.zero_le _)
theorem t_canTellX {A : xAb} {I : xI} {L : xL} {z : Bool × Bool × Nat} {nq mx : Nat} {lab : Nat → Nat → Nat} (h24 : (aP A).length ≤ 24) (hq : nq ≤ 24) (hI : xPt A nq lab mx I) : ∀ b, b ≤ 4 → ∀ x, x < 2 ^ (aP A).length → xCd (2 * b + 2) 31 [.ref 43, .int (Int32.ofNat x), .int (Int32.ofNat b)] (xS I L z) (qB (fun w => w = 0 ↔ ¬ Tl (qsX nq lab) b (mS x)) I L z) := by
  have h24' : 2 ^ (aP A).length ≤ 16777216 := Nat.pow_le_pow_right (show 0 < 2 by decide) h24
  obtain ⟨i1, i2, i3, i4, i5, i6⟩ := hI
  intro b
  induction b with
  | zero =>
    intro _ x hx
    refine c_X1_canTell (g_X1_canTell_0 (by decide) ?_)
    by_cases c : oneS (mS x)
    · rw [if_pos ((one_cond h24 hx).mpr c)]
      exact ⟨⟨_, rfl, ⟨fun y => absurd y (by decide), fun y => absurd c y⟩⟩, rfl⟩
    · rw [if_neg (fun y => c ((one_cond h24 hx).mp y)), if_neg (by decide)]
      exact ⟨⟨_, rfl, ⟨fun _ => c, fun _ => rfl⟩⟩, rfl⟩
  | succ b ih =>
    intro hb4 x hx
    refine c_X1_canTell (g_X1_canTell_0 (by omega) ?_)
    by_cases c : oneS (mS x)
    · rw [if_pos ((one_cond h24 hx).mpr c)]
      exact ⟨⟨_, rfl, ⟨fun y => absurd y (by decide), fun y => absurd (Tl_one c _) y⟩⟩, rfl⟩
    · rw [if_neg (fun y => c ((one_cond h24 hx).mp y)), if_pos (show (0 : Int32) < Int32.ofNat (b + 1) from (xv_lt (a := 0) (by decide) (by omega)).mpr (by omega))]
      refine xuse (t_mostTold i2 hb4) (by omega) ?_
      rintro _ _ ⟨rfl, rfl⟩
      refine g_X1_canTell_23 (by omega) ?_
      have hpc : pcn x 24 = pcn x (aP A).length := pcn_top hx 24 h24
      have hpl := pcn_le x (aP A).length
      have hmx : mx ^ (b + 1) ≤ 6 ^ 4 := Nat.le_trans (Nat.pow_le_pow_left i3.2 _) (Nat.pow_le_pow_right (by decide) hb4)
      have hmx' : mx ^ (b + 1) ≤ 1296 := hmx
      rw [f_bitCount24 (by omega), hpc]
      by_cases cc : mx ^ (b + 1) < pcn x (aP A).length
      · rw [if_pos ((xv_lt (by omega) (by omega)).mpr cc)]
        refine ⟨⟨_, rfl, ⟨fun _ y => ?_, fun _ => rfl⟩⟩, rfl⟩
        have cnt := Tl_count (Qs := qsX nq lab) (m := (aP A).length) (M := mx) i3.1 (fun l hl => by
          obtain ⟨q, hq', rfl⟩ := hl
          obtain ⟨s, s1, s2, s3⟩ := i6 q hq'
          refine ⟨6, fun v => s.testBit v, s3, ?_⟩
          have : ∀ n, sum6 (fun v => if s.testBit v = true then 1 else 0) n = pcn s n := by
            intro n
            induction n with
            | zero => rfl
            | succ n ih => simp only [sum6, pcn, ih]
          rw [this]; exact s2) (b + 1) (f := fun i => x.testBit i) (Tl_sub _ (fun i h => h.2) y)
        rw [← pcn_cb] at cnt
        omega
      · rw [if_neg (fun y => cc ((xv_lt (by omega) (by omega)).mp y))]
        have parts : ∀ q, q < nq → xCd (2 * b + 3) 33 [.ref 43, .int (Int32.ofNat q), .int (Int32.ofNat x), .int (Int32.ofNat (b + 1))] (xS I L z) (qB (fun w => w = 0 ↔ ¬ ((∀ v, ¬ ∀ i, mS x i → lab q i = v) ∧ ∀ v, Tl (qsX nq lab) b (fun i => mS x i ∧ lab q i = v))) I L z) := by
          intro q hq'
          obtain ⟨s, s1, s2, s3⟩ := i6 q hq'
          refine c_X1_canTellBy (g_X1_canTellBy_0 (by omega) ?_)
          have e6 : Int32.ofNat q * 6 = Int32.ofNat (q * 6) := xv_mul q 6
          rw [e6, if_neg (xv_neg (by omega)), show Int32.ofNat (q * 6) + 6 = Int32.ofNat (q * 6 + 6) from xv_add _ 6, if_neg (show ¬ (144 : Int32) < Int32.ofNat (q * 6 + 6) from fun y => by have := (xv_lt (a := 144) (by decide) (by omega)).mp y; omega)]
          have key : ∀ v, v ≤ 6 → (∀ u, u < v → (¬ ∀ i, mS x i → lab q i = u) ∧ Tl (qsX nq lab) b (fun i => mS x i ∧ lab q i = u)) → h_X1_canTellBy_30 (2 * b + 2) (qB (fun w => w = 0 ↔ ¬ ((∀ v, ¬ ∀ i, mS x i → lab q i = v) ∧ ∀ v, Tl (qsX nq lab) b (fun i => mS x i ∧ lab q i = v))) I L z) (0, 0) I L z (Int32.ofNat q) (Int32.ofNat x) (Int32.ofNat (b + 1)) (Int32.ofNat (q * 6)) (Int32.ofNat (q * 6 + v)) := by
            refine xcount _ 6 ?_ ?_
            · intro v hv G hu
              refine g_X1_canTellBy_30 (by omega) ?_
              obtain ⟨y, y1, y2, y3⟩ := i4 q hq' v hv
              have ix : q * 6 + v < 144 := by omega
              rw [show Int32.ofNat (q * 6) + 6 = Int32.ofNat (q * 6 + 6) from xv_add _ 6, if_pos ((xv_lt (by omega) (by omega)).mpr (show q * 6 + v < q * 6 + 6 by omega)), if_pos ((xv_in (by omega)).mpr ix), xv_clamp (by omega), y2, xv_and]
              have yl : x &&& y < 2 ^ (aP A).length := Nat.lt_of_le_of_lt Nat.and_le_left hx
              have ys : ∀ i, mS (x &&& y) i ↔ (mS x i ∧ lab q i = v) := fun i => by
                show (x &&& y).testBit i = true ↔ _
                rw [Nat.testBit_and, Bool.and_eq_true]
                constructor
                · rintro ⟨a, d⟩; exact ⟨a, ((y3 i).mp d).2⟩
                · rintro ⟨a, d⟩; exact ⟨a, (y3 i).mpr ⟨mS_lt hx a, d⟩⟩
              by_cases e : x &&& y = x
              · rw [if_pos (by rw [e])]
                refine ⟨⟨_, rfl, ⟨fun _ w => w.1 v (fun i hi => ?_), fun _ => rfl⟩⟩, rfl⟩
                rw [← e] at hi
                exact ((ys i).mp hi).2
              · rw [if_neg (fun w => e ((xv_eq (by omega) (by omega)).mp w)), show Int32.ofNat (b + 1) - 1 = Int32.ofNat b from xv_sub (a := b + 1) (b := 1) (by omega)]
                refine xuse (ih (by omega) _ yl) (by omega) ?_
                rintro _ _ ⟨⟨w, rfl, hw⟩, rfl⟩
                refine g_X1_canTellBy_66 (by omega) ?_
                by_cases w0 : w = 0
                · rw [if_pos w0]
                  refine ⟨⟨_, rfl, ⟨fun _ w2 => hw.mp w0 (Tl_sub b (fun i hi => (ys i).mp hi) (w2.2 v)), fun _ => rfl⟩⟩, rfl⟩
                · rw [if_neg w0, show Int32.ofNat (q * 6 + v) + 1 = Int32.ofNat (q * 6 + (v + 1)) from xv_add (q * 6 + v) 1]
                  have tl : Tl (qsX nq lab) b (mS (x &&& y)) := Classical.byContradiction fun w2 => w0 (hw.mpr w2)
                  refine G fun u hu' => ?_
                  by_cases d : u = v
                  · subst d
                    refine ⟨fun w2 => e ?_, Tl_sub b (fun i hi => (ys i).mpr hi) tl⟩
                    apply Nat.eq_of_testBit_eq
                    intro i
                    rw [Bool.eq_iff_iff]
                    exact (ys i).trans ⟨fun w => w.1, fun w => ⟨w, w2 i w⟩⟩
                  · exact hu u (by omega)
            · intro hu
              refine g_X1_canTellBy_30 (by omega) ?_
              rw [show Int32.ofNat (q * 6) + 6 = Int32.ofNat (q * 6 + 6) from xv_add _ 6, if_neg (fun q => Nat.lt_irrefl _ ((xv_lt (by omega) (by omega)).mp q))]
              refine ⟨⟨_, rfl, ⟨fun w => absurd w (by decide), fun w => absurd ⟨fun v hv => ?_, fun v => ?_⟩ w⟩⟩, rfl⟩
              · by_cases d : v < 6
                · exact (hu v d).1 hv
                · have nz : ∃ i, mS x i := Classical.byContradiction fun q => c (fun i j a _ => absurd ⟨i, a⟩ q)
                  obtain ⟨i, hi⟩ := nz
                  have := (s3 i (mS_lt hx hi)).1
                  have := hv i hi
                  omega
              · by_cases d : v < 6
                · exact (hu v d).2
                · exact Tl_one (fun i j a _ => by
                    have := (s3 i (mS_lt hx a.1)).1
                    have := a.2
                    omega) b
          have := key 0 (by decide) (fun u hu => absurd hu (Nat.not_lt_zero _))
          exact this
        have key : ∀ q, q ≤ nq → (∀ r, r < q → ¬ ((∀ v, ¬ ∀ i, mS x i → lab r i = v) ∧ ∀ v, Tl (qsX nq lab) b (fun i => mS x i ∧ lab r i = v))) → h_X1_canTell_30 (2 * (b + 1) + 1) (qB (fun w => w = 0 ↔ ¬ Tl (qsX nq lab) (b + 1) (mS x)) I L z) (0, 0) I L z (Int32.ofNat x) (Int32.ofNat (b + 1)) (Int32.ofNat q) := by
          refine xcount _ nq ?_ ?_
          · intro q hq' G hr
            refine g_X1_canTell_30 (by omega) ?_
            rw [i1, if_pos ((xv_lt (by omega) (by omega)).mpr hq')]
            refine xuse (parts q hq') (by omega) ?_
            rintro _ _ ⟨⟨w, rfl, hw⟩, rfl⟩
            refine g_X1_canTell_45 (by omega) ?_
            by_cases w0 : w = 0
            · rw [if_pos w0, show Int32.ofNat q + 1 = Int32.ofNat (q + 1) from xv_add q 1]
              refine G fun r hr' => ?_
              by_cases d : r = q
              · rw [d]; exact hw.mp w0
              · exact hr r (by omega)
            · rw [if_neg w0]
              have yes := Classical.byContradiction fun q => w0 (hw.mpr q)
              refine ⟨⟨_, rfl, ⟨fun y => absurd y (by decide), fun y => absurd ?_ y⟩⟩, rfl⟩
              exact Or.inr ⟨lab q, ⟨q, hq', rfl⟩, yes.2⟩
          · intro hr
            refine g_X1_canTell_30 (by omega) ?_
            rw [i1, if_neg (fun q => Nat.lt_irrefl _ ((xv_lt (by omega) (by omega)).mp q))]
            refine ⟨⟨_, rfl, ⟨fun _ y => ?_, fun _ => rfl⟩⟩, rfl⟩
            obtain ⟨l, ⟨q, hq', rfl⟩, l2, l3⟩ := Tl_strict b c y
            exact hr q hq' ⟨l2, l3⟩
        exact key 0 (Nat.zero_le _) (fun r hr => absurd hr (Nat.not_lt_zero _))
/-- both sets of questions tell the same -/
theorem qs_same {A : xAb} {ks nq b : Nat} {lab : Nat → Nat → Nat} {x : Nat} (hA : abOK A) (hk : ks < 16) (hok : qsOK A (if ks.testBit 3 = true then 8 else ks) nq lab (fun _ _ => True)) (hx : x < 2 ^ (aP A).length) : Tl (qsX nq lab) b (mS x) ↔ Tl (qsM A ks) b (mS x) := by
  have h8 : ∀ k, k < 4 → Nat.testBit 8 k = true → k = 3 := by decide
  have h83 : Nat.testBit 8 3 = true := by decide
  constructor
  · refine Tl_ref (S0 := fun i => i < (aP A).length) ?_ b (fun i hi => mS_lt hx hi)
    rintro _ ⟨q, hq, rfl⟩
    obtain ⟨p, k, hp, hk4, bt, e⟩ := hok.1 q hq
    have btk : ks.testBit k = true := by
      by_cases c : ks.testBit 3 = true
      · rw [if_pos c] at bt
        rw [h8 k hk4 bt]; exact c
      · rw [if_neg c] at bt; exact bt
    exact ⟨aLb A p k, ⟨p, k, hp, hk4, btk, rfl⟩, fun i j hi hj h => (e i j hi hj).mpr h⟩
  · refine Tl_ref (S0 := fun i => i < (aP A).length) ?_ b (fun i hi => mS_lt hx hi)
    rintro _ ⟨p, k, hp, hk4, bt, rfl⟩
    by_cases c : ks.testBit 3 = true
    · rw [if_pos c] at hok
      obtain ⟨q, hq, e⟩ := hok.2 p 3 trivial hp (by decide) h83
      refine ⟨lab q, ⟨q, hq, rfl⟩, fun i j hi hj h => ?_⟩
      have := (e i j hi hj).mp h
      have e3 : wd ((aP A).getD i 0) p = wd ((aP A).getD j 0) p := this
      show aNum A k _ = aNum A k _
      rw [e3]
    · rw [if_neg c] at hok
      obtain ⟨q, hq, e⟩ := hok.2 p k trivial hp hk4 bt
      exact ⟨lab q, ⟨q, hq, rfl⟩, fun i j hi hj h => (e i j hi hj).mp h⟩
theorem t_canEver {A : xAb} {I : xI} {L : xL} {z : Bool × Bool × Nat} {ks t : Nat} (hA : abOK A) (hX : xTX I 10 A) (hs : xShf I) (hP : xPos A I) (hk : ks < 16) (hT : xTal t I) (ht : t < 1000000) : xCd 4 28 [.ref 43, .int (Int32.ofNat ks)] (xS I L z) (fun r τ => ∃ v : Int32, r = some (.int v) ∧ (v = 0 ↔ never A ks) ∧ ∃ J, τ = xS J L z ∧ xsm scrTL I J ∧ xTal (t + 1) J) := by
  have h6 := hA.1.2
  have hl := aP_len hA
  refine c_X1_canEverTell (g_X1_canEverTell_0 (by decide) ?_)
  refine xuse (t_findLikes hA hX hk) (by decide) ?_
  rintro _ _ ⟨rfl, J0, rfl, hJ0, lk, hlk⟩
  have hl6 : ∀ s, s < 6 → lk s < 6 := fun s hs6 => Nat.lt_of_le_of_lt (hlk s hs6).2.1 hs6
  refine g_X1_canEverTell_5 (by decide) ?_
  have hT0 : xTal t J0 := xTal_sm hJ0 (fun o k e => by unfold scrL at e; omega) hT
  obtain ⟨n1, n2⟩ := tab_new (L := L) (z := z) hT0
  have kl : ∀ w, w ∈ aW A → aKey A lk w < 262144 := fun w hw => wc_lt h6 fun i hi => by
    have := hl6 _ (aW_wd hA hw (show i < 6 by omega)).1
    (try dsimp only); omega
  have ke : ∀ i j, i < (aP A).length → j < (aP A).length → (aKey A lk ((aP A).getD i 0) = aKey A lk ((aP A).getD j 0) ↔ alW A ks ((aP A).getD i 0) ((aP A).getD j 0)) := fun i j hi hj => key_eq hA (aP_mem.mp (gd_mem hi)).1 (aP_mem.mp (gd_mem hj)).1 (fun s hs6 => (hlk s hs6).2)
  have key : ∀ i, i ≤ (aP A).length → ∀ J K, xsm scrTL I J → (∀ s, s < 6 → J 48 s = Int32.ofNat (lk s)) → xTab (t + 1) K (((aP A).take i).map (aKey A lk)) J → tabOK K (((aP A).take i).map (aKey A lk)) → (∀ a b, b < a → a < i → ¬ alW A ks ((aP A).getD a 0) ((aP A).getD b 0)) → h_X1_canEverTell_14 3 (fun r τ => ∃ v : Int32, r = some (.int v) ∧ (v = 0 ↔ never A ks) ∧ ∃ J, τ = xS J L z ∧ xsm scrTL I J ∧ xTal (t + 1) J) (0, 0) J L z (Int32.ofNat ks) (Int32.ofNat i) := by
    refine xcount _ (aP A).length ?_ ?_
    · intro i hi G J K hJ h48 hTb hO hd
      refine g_X1_canEverTell_14 (by decide) ?_
      have hX' : xTX J 10 A := xTX_sm hJ (fun k hk => by unfold scrTL; omega) (fun o a b k => by unfold scrTL; omega) hX
      have hs' : xShf J := xShf_sm hJ (fun k => by unfold scrTL; omega) hs
      have hP' : xPos A J := xPos_sm hJ ⟨by unfold scrTL; omega, fun k => by unfold scrTL; omega, fun k => by unfold scrTL; omega⟩ hP
      have hwi := (aP_mem.mp (gd_mem hi)).1
      rw [f_possible hP' hl hi, hP'.1, if_pos ((xv_lt (by omega) (by omega)).mpr hi)]
      refine xuse (t_likeOf hA hX' hs' hwi (fun s hs6 => ⟨h48 s hs6, hl6 s hs6⟩)) (by decide) ?_
      rintro _ _ ⟨rfl, rfl⟩
      refine g_X1_canEverTell_41 (by decide) ?_
      have klt := kl _ hwi
      refine xuse (t_add (k := aKey A lk ((aP A).getD i 0)) hTb hO (by omega) (fun k hk => by
        obtain ⟨w, hw, rfl⟩ := List.mem_map.mp hk
        have := kl w (aP_mem.mp (List.mem_of_mem_take hw)).1
        omega) (by rw [List.length_map, List.length_take]; omega) (by omega)) (by decide) ?_
      rintro _ _ ⟨rfl, J', rfl, k0, K', k1, k2⟩
      refine g_X1_canEverTell_44 (by decide) ?_
      have hJ' : xsm scrTL I J' := xsm_trans hJ (xsm_mono k0 (fun o k e => by unfold scrT' at e; unfold scrTL; omega))
      have hcl : List.count (aKey A lk ((aP A).getD i 0)) (((aP A).take i).map (aKey A lk)) ≤ i := Nat.le_trans List.count_le_length (by rw [List.length_map, List.length_take]; omega)
      have sn : ((aP A).take (i + 1)).map (aKey A lk) = ((aP A).take i).map (aKey A lk) ++ [aKey A lk ((aP A).getD i 0)] := by rw [take_snoc hi, List.map_append]; rfl
      by_cases c : aKey A lk ((aP A).getD i 0) ∈ ((aP A).take i).map (aKey A lk)
      · have : 0 < List.count (aKey A lk ((aP A).getD i 0)) (((aP A).take i).map (aKey A lk)) := List.count_pos_iff.mpr c
        rw [if_pos (show (1 : Int32) < Int32.ofNat _ from (xv_lt (a := 1) (by decide) (by omega)).mpr (by omega))]
        refine ⟨_, rfl, ⟨fun _ => ?_, fun _ => rfl⟩, J', rfl, hJ', tab_tal k1⟩
        obtain ⟨w, hw, e⟩ := List.mem_map.mp c
        obtain ⟨j, hj, ej⟩ := mem_gd hw
        rw [List.length_take] at hj
        rw [gd_take (by omega)] at ej
        rw [← ej] at e
        exact ⟨i, j, by omega, hi, (ke i j hi (by omega)).mp e.symm⟩
      · have : List.count (aKey A lk ((aP A).getD i 0)) (((aP A).take i).map (aKey A lk)) = 0 := List.count_eq_zero.mpr c
        rw [this, if_neg (by decide), show Int32.ofNat i + 1 = Int32.ofNat (i + 1) from xv_add i 1]
        rw [← sn] at k1 k2
        refine G J' K' hJ' (fun s hs6 => (k0 _ _ (by unfold scrT'; omega)).trans (h48 s hs6)) k1 k2 fun a b hab ha => ?_
        by_cases x : a = i
        · rw [x]; rw [x] at hab
          intro e
          refine c (List.mem_map.mpr ⟨(aP A).getD b 0, ?_, ((ke i b hi (by omega)).mpr e).symm⟩)
          have := gd_mem (l := (aP A).take i) (i := b) (by rw [List.length_take]; omega)
          rw [gd_take (by omega)] at this
          exact this
        · exact hd a b hab (by omega)
    · intro J K hJ h48 hTb hO hd
      refine g_X1_canEverTell_14 (by decide) ?_
      have hP' : xPos A J := xPos_sm hJ ⟨by unfold scrTL; omega, fun k => by unfold scrTL; omega, fun k => by unfold scrTL; omega⟩ hP
      rw [hP'.1, if_neg (fun q => Nat.lt_irrefl _ ((xv_lt (by omega) (by omega)).mp q))]
      refine ⟨_, rfl, ⟨fun x => absurd x (by decide), fun ⟨i, j, a, b, d⟩ => absurd d (hd i j a b)⟩, J, rfl, hJ, tab_tal hTb⟩
  exact key 0 (Nat.zero_le _) _ _ (xsm_xw (Or.inl ⟨rfl, rfl⟩) (xsm_mono hJ0 (fun o k e => by unfold scrL at e; unfold scrTL; omega))) (fun s hs6 => by rw [xw_ne1 (by decide)]; exact (hlk s hs6).1) n1 n2 (fun a b _ h => absurd h (Nat.not_lt_zero _))
/-- how many questions -/
def fwV (A : xAb) (ks : Nat) (v : Int32) : Prop := (never A ks ∧ v = -1) ∨ (¬ never A ks ∧ ((∃ b, b ≤ 4 ∧ v = Int32.ofNat b ∧ Tl (qsM A ks) b (mS (2 ^ (aP A).length - 1)) ∧ ∀ c, c < b → ¬ Tl (qsM A ks) c (mS (2 ^ (aP A).length - 1))) ∨ (v = -1 ∧ ∀ c, c ≤ 4 → ¬ Tl (qsM A ks) c (mS (2 ^ (aP A).length - 1)))))
theorem fw_ex (A : xAb) (ks : Nat) : ∃ v, fwV A ks v := by
  by_cases n : never A ks
  · exact ⟨-1, Or.inl ⟨n, rfl⟩⟩
  · by_cases c : ∃ b, b ≤ 4 ∧ Tl (qsM A ks) b (mS (2 ^ (aP A).length - 1))
    · obtain ⟨b, ⟨b1, b2⟩, b3⟩ := min_ex (m := fun b => b) c
      exact ⟨Int32.ofNat b, Or.inr ⟨n, Or.inl ⟨b, b1, rfl, b2, fun c hc hT => by have := b3 c ⟨by omega, hT⟩; omega⟩⟩⟩
    · exact ⟨-1, Or.inr ⟨n, Or.inr ⟨rfl, fun b hb hT => c ⟨b, hb, hT⟩⟩⟩⟩
theorem t_fewestX {A : xAb} {I : xI} {L : xL} {z : Bool × Bool × Nat} {ks t : Nat} {v : Int32} (hA : abOK A) (hX : xTX I 10 A) (hs : xShf I) (hP : xPos A I) (h24 : (aP A).length ≤ 24) (hk : ks < 16) (hT : xTal t I) (ht : t < 1000000) (hv : fwV A ks v) : xCd 13 27 [.ref 43, .int (Int32.ofNat ks)] (xS I L z) (qV (fun o k => scrTL o k ∨ scrQL o k) I L z v (fun J => xTal (t + 1) J)) := by
  have h6 := hA.1.2
  have h24' : 2 ^ (aP A).length ≤ 16777216 := Nat.pow_le_pow_right (show 0 < 2 by decide) h24
  have hpos := Nat.two_pow_pos (aP A).length
  refine c_X1_fewestOf (g_X1_fewestOf_0 (by decide) ?_)
  refine xuse (t_canEver hA hX hs hP hk hT ht) (by decide) ?_
  rintro _ _ ⟨w, rfl, hw, J, rfl, hJ, j1⟩
  refine g_X1_fewestOf_5 (by decide) ?_
  have hJS : xsm (fun o k => scrTL o k ∨ scrQL o k) I J := xsm_mono hJ (fun o k e => Or.inl e)
  by_cases w0 : w = 0
  · rw [if_pos w0]
    rcases hv with ⟨_, rfl⟩ | ⟨n, _⟩
    · exact ⟨rfl, J, rfl, hJS, j1⟩
    · exact absurd (hw.mp w0) n
  · rw [if_neg w0]
    have nn : ¬ never A ks := fun x => w0 (hw.mpr x)
    have hX' : xTX J 10 A := xTX_sm hJ (fun k hk => by unfold scrTL; omega) (fun o a b k => by unfold scrTL; omega) hX
    have hs' : xShf J := xShf_sm hJ (fun k => by unfold scrTL; omega) hs
    have hP' : xPos A J := xPos_sm hJ ⟨by unfold scrTL; omega, fun k => by unfold scrTL; omega, fun k => by unfold scrTL; omega⟩ hP
    refine xuse (t_findParts hA hX' hs' hP' h24 hk) (by decide) ?_
    rintro _ _ ⟨rfl, K, rfl, hK, nq, lab, mx, q1, q2, q3⟩
    refine g_X1_fewestOf_15 (by decide) ?_
    have hKS : xsm (fun o k => scrTL o k ∨ scrQL o k) I K := xsm_trans hJS (xsm_mono hK (fun o k e => Or.inr e))
    have k1 : xTal (t + 1) K := xTal_sm hK (fun o k e => by unfold scrQL at e; omega) j1
    have k37 : K 37 1 = Int32.ofNat (aP A).length := (hK _ _ (by unfold scrQL; omega)).trans hP'.1
    have ev : (1 <<< ((K 37 1) &&& 31)) - 1 = Int32.ofNat (2 ^ (aP A).length - 1) := by
      rw [k37, show (1 : Int32) = Int32.ofNat 1 from rfl, show (31 : Int32) = Int32.ofNat 31 from rfl, xv_and, xv_shl (by omega), Nat.one_mul, xv_sub (by omega)]
    rw [ev]
    have hv' : (∃ b, b ≤ 4 ∧ v = Int32.ofNat b ∧ Tl (qsM A ks) b (mS (2 ^ (aP A).length - 1)) ∧ ∀ c, c < b → ¬ Tl (qsM A ks) c (mS (2 ^ (aP A).length - 1))) ∨ (v = -1 ∧ ∀ c, c ≤ 4 → ¬ Tl (qsM A ks) c (mS (2 ^ (aP A).length - 1))) := by
      rcases hv with ⟨n, _⟩ | ⟨_, q⟩
      · exact absurd n nn
      · exact q
    have key : ∀ b, b ≤ 5 → (∀ c, c < b → ¬ Tl (qsM A ks) c (mS (2 ^ (aP A).length - 1))) → h_X1_fewestOf_29 12 (qV (fun o k => scrTL o k ∨ scrQL o k) I L z v (fun J => xTal (t + 1) J)) (0, 0) K L z (Int32.ofNat ks) (Int32.ofNat (2 ^ (aP A).length - 1)) (Int32.ofNat b) := by
      refine xcount _ 5 ?_ ?_
      · intro b hb G hc
        refine g_X1_fewestOf_29 (by decide) ?_
        rw [if_neg (show ¬ (4 : Int32) < Int32.ofNat b from fun q => by have := (xv_lt (a := 4) (by decide) (by omega)).mp q; omega)]
        refine xuse (t_canTellX h24 q1 q2 b (by omega) _ (show 2 ^ (aP A).length - 1 < 2 ^ (aP A).length by omega)) (by omega) ?_
        rintro _ _ ⟨⟨u, rfl, hu⟩, rfl⟩
        refine g_X1_fewestOf_40 (by decide) ?_
        rw [qs_same hA hk q3 (by omega)] at hu
        by_cases u0 : u = 0
        · rw [if_pos u0, show Int32.ofNat b + 1 = Int32.ofNat (b + 1) from xv_add b 1]
          refine G fun c hc' => ?_
          by_cases d : c = b
          · rw [d]; exact hu.mp u0
          · exact hc c (by omega)
        · rw [if_neg u0]
          have yes : Tl (qsM A ks) b (mS (2 ^ (aP A).length - 1)) := Classical.byContradiction fun q => u0 (hu.mpr q)
          refine ⟨?_, K, rfl, hKS, k1⟩
          rcases hv' with ⟨b', b1, rfl, b2, b3⟩ | ⟨rfl, b3⟩
          · have : b' = b := by
              rcases Nat.lt_trichotomy b' b with x | x | x
              · exact absurd b2 (hc b' x)
              · exact x
              · exact absurd yes (b3 b x)
            rw [this]
          · exact absurd yes (b3 b (by omega))
      · intro hc
        refine g_X1_fewestOf_29 (by decide) ?_
        rw [if_pos (by decide)]
        refine ⟨?_, K, rfl, hKS, k1⟩
        rcases hv' with ⟨b', b1, rfl, b2, b3⟩ | ⟨rfl, b3⟩
        · exact absurd b2 (hc b' (by omega))
        · rfl
    exact key 0 (by decide) (fun c hc => absurd hc (Nat.not_lt_zero _))
theorem pr_fewest (a1 : Int32) : xPq 158 262 [.int a1] := by
  intro c A I L z hc h
  have hA := h.1.1
  have h6 := hA.1.2
  have hl := aP_len hA
  have m1 : ∀ J : xI, p_X9_in J L (Int32.toInt64 a1) (Int64.ofNat 1) (Int64.ofNat 15) ↔ (1 ≤ a1.toInt ∧ a1.toInt < (16 : Nat)) := fun J => xm_in (by decide) (by decide)
  by_cases e : 1 ≤ a1.toInt ∧ a1.toInt < (16 : Nat)
  · obtain ⟨ks, hk, rfl⟩ := xr_nat (a := a1) (m := 16) (by omega)
    have c1 : ¬ Int32.ofNat ks < 1 := fun q => by rw [Int32.lt_iff_toInt_lt, ti_1] at q; omega
    have c2 : ¬ 15 < Int32.ofNat ks := fun q => by rw [Int32.lt_iff_toInt_lt, ti_15] at q; omega
    by_cases q : (aP A).length = 0 ∨ 24 < (aP A).length
    · refine pr_q h 5 0 ?_ ?_
      · refine c_X8_fewest (d := 29) (g_X8_fewest_0 (by decide) ?_)
        rw [if_neg c1, if_neg c2]
        refine u_refresh h (by decide) ?_
        intro J t hJ hF hX hs ha t1 t2
        refine g_X8_fewest_25 (by decide) ?_
        rw [hF.2.2.2.1]
        by_cases q0 : (aP A).length = 0
        · rw [q0, if_pos (show Int32.ofNat 0 = (0 : Int32) from rfl)]
          exact oX_no2 (xsm_mono hJ scrW_X) (xCache_of hF) t2 (by omega) (by decide) (by decide)
        · rw [if_neg (show ¬ Int32.ofNat (aP A).length = (0 : Int32) from fun x => q0 ((xv_eq (b := 0) (by omega) (by decide)).mp x)), if_pos (show (24 : Int32) < Int32.ofNat (aP A).length from (xv_lt (a := 24) (by decide) (by omega)).mpr (by omega))]
          exact oX_no2 (xsm_mono hJ scrW_X) (xCache_of hF) t2 (by omega) (by decide) (by decide)
      · intro J hJ hM
        refine c_X9_fewest (d := 29) (g_X9_fewest_0 (by decide) ?_)
        rw [if_pos ((m1 J).mpr e)]
        refine u_findP hA hM (by decide) ?_
        intro K hK hR hM'
        refine g_X9_fewest_23 (by decide) ?_
        rw [hR.2.1]
        by_cases q0 : (aP A).length = 0
        · rw [q0, if_pos (show Int32.ofNat 0 = (0 : Int32) from rfl)]
          exact oM_no (xsm_mono hK scrF_M) (by decide) (by decide)
        · rw [if_neg (show ¬ Int32.ofNat (aP A).length = (0 : Int32) from fun x => q0 ((xv_eq (b := 0) (by omega) (by decide)).mp x)), if_pos (show (24 : Int32) < Int32.ofNat (aP A).length from (xv_lt (a := 24) (by decide) (by omega)).mpr (by omega))]
          exact oM_no (xsm_mono hK scrF_M) (by decide) (by decide)
    · have q0 : ¬ Int32.ofNat (aP A).length = (0 : Int32) := fun x => q (Or.inl ((xv_eq (b := 0) (by omega) (by decide)).mp x))
      have q1 : ¬ (24 : Int32) < Int32.ofNat (aP A).length := fun x => q (Or.inr ((xv_lt (a := 24) (by decide) (by omega)).mp x))
      have h24 : (aP A).length ≤ 24 := by omega
      obtain ⟨v, hv⟩ := fw_ex A ks
      refine pr_q h 0 v ?_ ?_
      · refine c_X8_fewest (d := 29) (g_X8_fewest_0 (by decide) ?_)
        rw [if_neg c1, if_neg c2]
        refine u_refresh h (by decide) ?_
        intro J t hJ hF hX hs ha t1 t2
        refine g_X8_fewest_25 (by decide) ?_
        rw [hF.2.2.2.1, if_neg q0, if_neg q1]
        refine xuse (t_fewestX hA hX hs hF.2.2.2 h24 hk t2 (by omega) hv) (by decide) ?_
        rintro _ _ ⟨rfl, K, rfl, k0, k1⟩
        exact g_X8_fewest_62 (by decide) (oX_ok (xsm_trans (xsm_mono hJ scrW_X) (xsm_mono k0 (fun o k e => by unfold scrTL scrQL at e; unfold scrX; omega))) (xCache_of (xFresh_sm k0 (fun o k e => by unfold scrTL scrQL at e; unfold noC; omega) hF)) k1 (by omega))
      · intro J hJ hM
        refine c_X9_fewest (d := 29) (g_X9_fewest_0 (by decide) ?_)
        rw [if_pos ((m1 J).mpr e)]
        refine u_findP hA hM (by decide) ?_
        intro K hK hR hM'
        refine g_X9_fewest_23 (by decide) ?_
        rw [hR.2.1, if_neg q0, if_neg q1]
        refine xuse (t_canNever hA hM' hR hk) (by decide) ?_
        rintro _ _ ⟨⟨w, rfl, hw⟩, rfl⟩
        refine g_X9_fewest_51 (by decide) ?_
        by_cases w0 : w = 0
        · have nn := hw.mp w0
          rw [if_pos w0]
          have h24' : 2 ^ (aP A).length ≤ 16777216 := Nat.pow_le_pow_right (show 0 < 2 by decide) h24
          have hpos := Nat.two_pow_pos (aP A).length
          have ev : (1 <<< ((K 66 36) &&& 31)) - 1 = Int32.ofNat (2 ^ (aP A).length - 1) := by
            rw [hR.2.1, show (1 : Int32) = Int32.ofNat 1 from rfl, show (31 : Int32) = Int32.ofNat 31 from rfl, xv_and, xv_shl (by omega), Nat.one_mul, xv_sub (by omega)]
          have hv' : (∃ b, b ≤ 4 ∧ v = Int32.ofNat b ∧ Tl (qsM A ks) b (mS (2 ^ (aP A).length - 1)) ∧ ∀ c, c < b → ¬ Tl (qsM A ks) c (mS (2 ^ (aP A).length - 1))) ∨ (v = -1 ∧ ∀ c, c ≤ 4 → ¬ Tl (qsM A ks) c (mS (2 ^ (aP A).length - 1))) := by
            rcases hv with ⟨n, _⟩ | ⟨_, q⟩
            · exact absurd n nn
            · exact q
          have key : ∀ b, b ≤ 5 → (∀ c, c < b → ¬ Tl (qsM A ks) c (mS (2 ^ (aP A).length - 1))) → h_X9_fewest_58 29 (oM J L z 0 v) (0, 0) K L z (Int32.ofNat ks) (Int32.ofNat b) := by
            refine xcount _ 5 ?_ ?_
            · intro b hb G hc
              refine g_X9_fewest_58 (by decide) ?_
              rw [if_neg (show ¬ (4 : Int32) < Int32.ofNat b from fun q => by have := (xv_lt (a := 4) (by decide) (by omega)).mp q; omega), ev]
              refine xuse (t_canTellM hA hM' hR h24 hk b (by omega) _ (show 2 ^ (aP A).length - 1 < 2 ^ (aP A).length by omega)) (by omega) ?_
              rintro _ _ ⟨⟨u, rfl, hu⟩, rfl⟩
              refine g_X9_fewest_77 (by decide) ?_
              by_cases u0 : u = 0
              · rw [if_pos u0, show Int32.ofNat b + 1 = Int32.ofNat (b + 1) from xv_add b 1]
                refine G fun c hc' => ?_
                by_cases d : c = b
                · rw [d]; exact hu.mp u0
                · exact hc c (by omega)
              · rw [if_neg u0]
                have yes : Tl (qsM A ks) b (mS (2 ^ (aP A).length - 1)) := Classical.byContradiction fun q => u0 (hu.mpr q)
                have : Int32.ofNat b = v := by
                  rcases hv' with ⟨b', b1, rfl, b2, b3⟩ | ⟨rfl, b3⟩
                  · have : b' = b := by
                      rcases Nat.lt_trichotomy b' b with x | x | x
                      · exact absurd b2 (hc b' x)
                      · exact x
                      · exact absurd yes (b3 b x)
                    rw [this]
                  · exact absurd yes (b3 b (by omega))
                rw [this]
                exact oM_ok (xsm_mono hK scrF_M)
            · intro hc
              refine g_X9_fewest_58 (by decide) ?_
              rw [if_pos (by decide)]
              have : (-1 : Int32) = v := by
                rcases hv' with ⟨b', b1, rfl, b2, b3⟩ | ⟨rfl, b3⟩
                · exact absurd b2 (hc b' (by omega))
                · rfl
              rw [this]
              exact oM_ok (xsm_mono hK scrF_M)
          exact key 0 (by decide) (fun c hc => absurd hc (Nat.not_lt_zero _))
        · rw [if_neg w0]
          have n : never A ks := Classical.byContradiction fun x => w0 (hw.mpr x)
          rcases hv with ⟨_, rfl⟩ | ⟨n', _⟩
          · exact oM_ok (xsm_mono hK scrF_M)
          · exact absurd n n'
  · refine pr_q h 2 0 ?_ ?_
    · refine c_X8_fewest (d := 29) (g_X8_fewest_0 (by decide) ?_)
      simp only [Int32.lt_iff_toInt_lt, ti_1, ti_15]
      (repeat' split) <;> first | exact oX_no h (by decide) (by decide) | (exfalso; omega)
    · intro J hJ hM
      refine c_X9_fewest (d := 29) (g_X9_fewest_0 (by decide) ?_)
      rw [if_neg (fun x => e ((m1 J).mp x))]
      exact oM_no (xsm_refl _ _) (by decide) (by decide)
