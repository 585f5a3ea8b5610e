/-! promises: stairs -/
theorem u32_i (x : UInt32) : UInt32.toInt32 x = Int32.ofNat x.toNat := by
  apply Int32.toBitVec_inj.1
  show x.toBitVec = BitVec.ofNat 32 x.toNat
  apply BitVec.eq_of_toNat_eq
  rw [BitVec.toNat_ofNat]; exact (Nat.mod_eq_of_lt x.toBitVec.isLt).symm
def draw16 (a : Int32) : Nat := (Int32.toUInt32 a >>> (Int32.toUInt32 16 &&& Int32.toUInt32 31)).toNat
theorem draw16_lt (a : Int32) : draw16 a < 65536 := by
  unfold draw16
  rw [show (Int32.toUInt32 16 &&& Int32.toUInt32 31) = (16 : UInt32) from by decide, UInt32.toNat_shiftRight, show (16 : UInt32).toNat % 32 = 16 from rfl, Nat.shiftRight_eq_div_pow]
  have := (Int32.toUInt32 a).toBitVec.isLt
  have e : (Int32.toUInt32 a).toNat = (Int32.toUInt32 a).toBitVec.toNat := rfl
  rw [e]
  omega
theorem draw_idx (a : Int32) {n : Nat} (h0 : 0 < n) (h7 : n ≤ 720) : ((Int32.toUInt32 a >>> (Int32.toUInt32 16 &&& Int32.toUInt32 31)).toInt32) - ((Int32.toUInt32 a >>> (Int32.toUInt32 16 &&& Int32.toUInt32 31)).toInt32) / Int32.ofNat n * Int32.ofNat n = Int32.ofNat (draw16 a % n) := by
  have h := draw16_lt a
  rw [u32_i]
  show Int32.ofNat (draw16 a) - Int32.ofNat (draw16 a) / Int32.ofNat n * Int32.ofNat n = _
  rw [xv_div (by omega) (by omega), xv_mul, xv_mod]
theorem seed_OK {A : xAb} {v : Int32} (hA : abOK A) : abOK (ab_seedTo A v) := by
  obtain ⟨k1, k2, k3, k4, k5, k6, k7, k8, k9, k10⟩ := hA
  exact ⟨k1, k2, k3, k4, k5, k6, k7, k8, k9, k10⟩
theorem stairs_OK {A : xAb} {v : Int32} {w : Nat} (hA : abOK A) (hw : w ∈ aW A) : abOK (ab_lay (ab_seedTo A v) (ab_n A) (ab_pour A) (wd w)) := by
  have hz := hA.2.2.2.2.1
  have hS : abOK (ab_seedTo A v) := seed_OK hA
  have h1 := hA.1
  have h3 := hA.2.2.1
  refine abOK_lay hS h1 h3 ?_ ?_
  · intro k hk
    exact (aW_wd hA hw (p := k) hk).1
  · intro k a b
    exact ⟨(hz k a b).1, (aW_wd hA hw (p := k) b).2 a⟩
theorem stairs_aux {c : Nat} {A : xAb} {I : xI} {L : xL} {z : Bool × Bool × Nat} (h : xInv c A I L z) (s' : Int32) (w : Nat) (hs' : ab_seed A * 1103515245 + 12345 = s') (hwe : (aW A).getD (draw16 s' % (aW A).length) 0 = w) : xCd 30 170 (.ref 9 :: []) (xS I L z) (fun r τ => xCd 30 290 (.ref 66 :: []) τ (fun r' τ' => r' = r ∧ ∃ A' I' L' z', τ' = xS I' L' z' ∧ xInv (c + 1) A' I' L' z')) := by
  have hA := h.1.1
  have h6 := hA.1.2
  obtain ⟨l0, l7⟩ := aW_len hA
  have di : draw16 s' % (aW A).length < (aW A).length := Nat.mod_lt _ l0
  have hw : w ∈ aW A := by rw [← hwe]; exact gd_mem di
  have wl := aW_lt hA hw
  have hB := stairs_OK (v := s') hA hw
  refine pr_c h (ab_lay (ab_seedTo A s') (ab_n A) (ab_pour A) (wd w)) hB (Int32.ofNat (aW A).length) ?_ ?_
  · refine c_X8_stairs (d := 29) (g_X8_stairs_0 (by decide) ?_)
    refine u_refresh h (by decide) ?_
    intro J t hJ hF hX hS ha t1 t2
    refine g_X8_stairs_7 (by decide) ?_
    have c37 := hF.2.2.1.1
    have s2 : J 10 2 * 1103515245 + 12345 = s' := by rw [hX.1.2.2.1]; exact hs'
    rw [c37, if_pos (show (0 : Int32) < Int32.ofNat (aW A).length from (xv_lt (a := 0) (by decide) (by omega)).mpr l0), if_neg (show ¬ Int32.ofNat (aW A).length = 0 from fun q => by have := (xv_eq (b := 0) (by omega) (by decide)).mp q; omega), s2, xw_eq, draw_idx s' l0 l7]
    have wo : f_X7_worldOf (xw J 10 2 s') L (Int32.ofNat (draw16 s' % (aW A).length)) = Int32.ofNat w := by
      unfold f_X7_worldOf
      have di7 : draw16 s' % (aW A).length < 720 := by omega
      rw [if_neg (xv_neg (by omega)), if_pos (show _ < (xw J 10 2 s') 37 0 by rw [xw_ne1 (by decide), c37]; exact (xv_lt (by omega) (by omega)).mpr di), if_pos (show Int32.ofNat (draw16 s' % (aW A).length) < (720 : Int32) from (xv_lt (b := 720) (by omega) (by decide)).mpr di7), if_pos ((xv_in (by omega)).mpr di7), xv_clamp (by omega), xw_ne1 (by decide), hF.2.2.1.2 _ di, hwe]
    rw [wo]
    have js : xShf (xw J 10 2 s') := fun p hp => by rw [xw_ne1 (by decide)]; exact hS p hp
    refine xuse (t_setTruth js wl) (by decide) ?_
    rintro _ _ ⟨rfl, N, rfl, hN, n3, n6, n12⟩
    have g : ∀ o k, ¬ (o = 12 ∨ (o = 10 ∧ (k = 2 ∨ k = 3 ∨ k = 6))) → N o k = J o k := fun o k e => (hN o k (by omega)).trans (xw_ne (by omega))
    have sX := xTX_seed (v := s') hX
    refine g_X8_stairs_37 (by decide) ⟨rfl, N, rfl, ?_, ?_, ?_, ?_, t, by omega, ?_⟩
    · intro o k e
      unfold scrXt scrX at e
      exact (g o k (by omega)).trans (hJ o k (by unfold scrW; omega))
    · refine xTX_lay sX ((hN 10 0 (by omega)).trans sX.1.1) (hN 10 1 (by omega)) (hN 10 2 (by omega)) n3 (hN 10 4 (by omega)) (fun k hk => by rw [hN (10 + 1) k (by omega)]; exact sX.2.1 k hk) n12 (fun o ho k => hN o k (by omega))
    · intro t _ ht
      rw [g 10 4 (by omega), hJ 10 4 (by unfold scrW; omega)]; exact ht
    · exact xCache_pos (xCache_of hF) (aW_eq rfl rfl rfl) (g 10 5 (by omega)) n6 (fun o ho k => g o k (by omega))
    · exact xTal_sm (S := fun o k => o = 12 ∨ o = 10) (fun o k e => g o k (by omega)) (fun o k e => by omega) t2
  · intro J hJ _ hM
    refine c_X9_stairs (d := 29) (g_X9_stairs_0 (by decide) ?_)
    refine xuse (t_findWorlds hA hM) (by decide) ?_
    rintro _ _ ⟨rfl, K, rfl, hK, kR⟩
    have kM : xTM K 66 A := xTM_sm hK (by unfold scrK; omega) (fun o a b k => by unfold scrK; omega) hM
    refine g_X9_stairs_4 (by decide) ?_
    have s2 : K 66 20 * 1103515245 + 12345 = s' := by rw [kM.1.2.2.1]; exact hs'
    rw [kR.1, if_neg (show ¬ Int32.ofNat (aW A).length = 0 from fun q => by have := (xv_eq (b := 0) (by omega) (by decide)).mp q; omega), s2, xw_eq, draw_idx s' l0 l7]
    have sM := xTM_seed (v := s') kM
    have key : ∀ i, i ≤ ab_n A → ∀ N : xI, xsm (xAt 84) (xw K 66 20 s') N → (∀ k, k < i → N 84 k = Int32.ofNat (wd w k)) → h_X9_stairs_15 29 (oMc (ab_lay (ab_seedTo A s') (ab_n A) (ab_pour A) (wd w)) J L z (Int32.ofNat (aW A).length)) (0, 0) N L z (Int32.ofNat (draw16 s' % (aW A).length)) (Int32.ofNat i) := by
      refine xcount _ (ab_n A) ?_ ?_
      · intro i hi KK N hN nk
        refine g_X9_stairs_15 (by decide) ?_
        have nn : N 66 9 = Int32.ofNat (ab_n A) := (hN 66 9 (by unfold xAt; omega)).trans sM.1.1
        have ix : Int32.ofNat (draw16 s' % (aW A).length) * 6 + Int32.ofNat i = Int32.ofNat (draw16 s' % (aW A).length * 6 + i) := by
          rw [show Int32.ofNat (draw16 s' % (aW A).length) * 6 = Int32.ofNat (draw16 s' % (aW A).length * 6) from xv_mul _ 6, xv_add]
        have c105 : N 105 (draw16 s' % (aW A).length * 6 + i) = Int32.ofNat (wd w i) := by
          rw [hN 105 _ (by unfold xAt; omega), xw_ne1 (by decide), kR.2 _ di i hi, hwe]
        rw [if_pos (show Int32.ofNat i < N 66 9 by rw [nn]; exact (xv_lt (by omega) (by omega)).mpr hi), ix, if_pos ((xv_in (by omega)).mpr (by omega)), if_pos ((xv_in (by omega)).mpr (by omega)), xv_clamp (by omega), xv_clamp (by omega), c105, show Int32.ofNat i + 1 = Int32.ofNat (i + 1) from xv_add i 1]
        refine KK _ (xsm_xw rfl hN) ?_
        intro k hk
        by_cases d : k = i
        · rw [d, xw_eq]
        · rw [xw_ne2 d]; exact nk k (by omega)
      · intro N hN nk
        refine g_X9_stairs_15 (by decide) ?_
        have nn : N 66 9 = Int32.ofNat (ab_n A) := (hN 66 9 (by unfold xAt; omega)).trans sM.1.1
        rw [if_neg (show ¬ Int32.ofNat (ab_n A) < N 66 9 by rw [nn]; exact fun q => absurd ((xv_lt (by omega) (by omega)).mp q) (Nat.lt_irrefl _))]
        refine xuse t_forgets (by decide) ?_
        rintro _ _ ⟨rfl, P, rfl, hP, pk⟩
        have g : ∀ o k, o ≠ 84 → ¬ (95 ≤ o ∧ o ≤ 100) → P o k = xw K 66 20 s' o k := fun o k a b => (hP o k b).trans (hN o k (by unfold xAt; omega))
        refine g_X9_stairs_45 (by decide) ?_
        rw [g 66 32 (by omega) (by omega), xw_ne2 (by decide), kR.1]
        refine ⟨rfl, P, rfl, ?_, ?_⟩
        · intro o k e
          unfold scrMt scrM at e
          rw [g o k (by omega) (by omega), xw_ne (by omega)]
          exact hK o k (by unfold scrK; omega)
        · refine xTM_lay sM ((g 66 9 (by omega) (by omega)).trans sM.1.1) (g 66 10 (by omega) (by omega)) (g 66 20 (by omega) (by omega)) (g 66 17 (by omega) (by omega)) (fun k hk => by rw [g (66 + 17) k (by omega) (by omega)]; exact sM.2.1 k hk) ?_ pk (fun o ho k => g o k (by omega) (by omega))
          intro k hk
          rw [hP (66 + 18) k (by unfold scrKn; omega)]
          exact nk k hk
    exact key 0 (Nat.zero_le _) _ (xsm_refl _ _) (fun k hk => absurd hk (Nat.not_lt_zero _))
theorem pr_stairs : xPq 170 290 [] := fun _ _ _ _ _ _ h => stairs_aux h _ _ rfl rfl
