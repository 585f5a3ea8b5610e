/-! the law: its cases: printed -/
def lwS (N : Nat) (σ : xH) : Prop := 67 ≤ σ.2.2.2.1.1 ∧ 1 ≤ σ.2.2.2.1.2.1 ∧ 1 ≤ σ.2.2.2.1.2.2 ∧ σ.2.2.2.2 = N
theorem lw_al {N o : Nat} {σ : xH} (h : lwS N σ) (ho : o < 67) : xalive σ.2.2.2.1 o = true := by
  unfold xalive
  have : Nat.blt o σ.2.2.2.1.1 = true := Nat.ble_eq_true_of_le (Nat.le_trans ho h.1)
  rw [this]; rfl
theorem lw_0 {N : Nat} {σ : xH} (h : lwS N σ) : xisi σ 0 = true := by
  unfold xisi
  rw [lw_al h (by decide)]; rfl
theorem lw_9 {N : Nat} {σ : xH} (h : lwS N σ) : xis σ 9 8 = true := by
  unfold xis
  rw [lw_al h (by decide)]; rfl
theorem lw_66 {N : Nat} {σ : xH} (h : lwS N σ) : xis σ 66 9 = true := by
  unfold xis
  rw [lw_al h (by decide)]; rfl
theorem lw_c {i j : Nat} (hi : i ≤ 3072) (hj : j < 6) : Int32.toNatClampNeg (Int32.ofNat i + Int32.ofNat j) = i + j := by
  rw [xv_add, xv_clamp (by omega)]
theorem lw_in {N i j : Nat} {σ : xH} (h : lwS N σ) (hN : N ≤ 3072) (hi : i + 6 ≤ N) (hj : j < 6) : xin (Int32.ofNat i + Int32.ofNat j) (xlen σ.2.2.2.2 0) := by
  have e : xlen σ.2.2.2.2 0 = N := h.2.2.2
  rw [e, xv_add]
  exact (xv_in (by omega)).mpr (by omega)
theorem lw_sm {N : Nat} {σ : xH} (h : lwS N σ) : sm0 σ σ := ⟨rfl, rfl, h.1, h.2.1, h.2.2.1⟩
theorem sm_lw {N : Nat} {σ τ : xH} (h : lwS N σ) (q : sm0 σ τ) : lwS N τ := ⟨q.2.2.1, q.2.2.2.1, q.2.2.2.2, q.2.1.trans h.2.2.2⟩
set_option maxRecDepth 100000 in
theorem bx_0 {C : xC} {Q : xQ} {K : xK} {σ : xH} {b : Nat × Nat} {a3 : Int32} : xrun k_L_law 2 C Q [] K 17 224 [some (.ref 0), some (.ref 9), some (.ref 66), some (.int a3)] [] σ b = (bif xisi σ 0 then (if xin (a3 + 1) (xlen σ.2.2.2.2 0) then (bif xisi σ 0 then (if xin (a3 + 2) (xlen σ.2.2.2.2 0) then (bif xisi σ 0 then (if xin (a3 + 3) (xlen σ.2.2.2.2 0) then (bif xis σ 9 8 then C 133 [.ref 9, .int (σ.1 0 (Int32.toNatClampNeg (a3 + 1))), .int (σ.1 0 (Int32.toNatClampNeg (a3 + 2))), .int (σ.1 0 (Int32.toNatClampNeg (a3 + 3)))] σ (fun r τ => K 243 [some (.ref 0), some (.ref 9), some (.ref 66), some (.int a3)] (r.toList ++ []) τ b) else False) else False) else False) else False) else False) else False) else False) := rfl
set_option maxRecDepth 100000 in
theorem bm_0 {C : xC} {Q : xQ} {K : xK} {σ : xH} {b : Nat × Nat} {a3 : Int32} {s0 : Int32} : xrun k_L_law 2 C Q [] K 17 243 [some (.ref 0), some (.ref 9), some (.ref 66), some (.int a3)] [.int s0] σ b = (bif xisi σ 0 then (if xin (a3 + 1) (xlen σ.2.2.2.2 0) then (bif xisi σ 0 then (if xin (a3 + 2) (xlen σ.2.2.2.2 0) then (bif xisi σ 0 then (if xin (a3 + 3) (xlen σ.2.2.2.2 0) then (bif xis σ 66 9 then C 193 [.ref 66, .int (σ.1 0 (Int32.toNatClampNeg (a3 + 1))), .int (σ.1 0 (Int32.toNatClampNeg (a3 + 2))), .int (σ.1 0 (Int32.toNatClampNeg (a3 + 3)))] σ (fun r τ => K 262 [some (.ref 0), some (.ref 9), some (.ref 66), some (.int a3)] (r.toList ++ [.int s0]) τ b) else False) else False) else False) else False) else False) else False) else False) := rfl
theorem be_0 {C : xC} {Q : xQ} {K : xK} {σ : xH} {b : Nat × Nat} {a3 : Int32} {s0 s1 : Int32} : xrun k_L_law 2 C Q [] K 1 262 [some (.ref 0), some (.ref 9), some (.ref 66), some (.int a3)] [.int s1, .int s0] σ b = (if s0 = s1 then K 1427 [some (.ref 0), some (.ref 9), some (.ref 66), some (.int a3)] [] σ b else K 265 [some (.ref 0), some (.ref 9), some (.ref 66), some (.int a3)] [] σ b) := rfl
theorem lc_0 {d N i : Nat} {F : xQ} {σ : xH} {b : Nat × Nat} {P : xH → Prop} (hd : 30 ≤ d) (hN : N ≤ 3072) (hs : lwS N σ) (hi : i + 6 ≤ N) (h : xCd 30 133 (.ref 9 :: [.int (σ.1 0 (i + 1)), .int (σ.1 0 (i + 2)), .int (σ.1 0 (i + 3))]) σ (fun r τ => xCd 30 193 (.ref 66 :: [.int (σ.1 0 (i + 1)), .int (σ.1 0 (i + 2)), .int (σ.1 0 (i + 3))]) τ (fun r' τ' => r' = r ∧ P τ'))) (k : ∀ τ, P τ → lwS N τ → xEX k_L_law 2 (xCd d) F 1427 [some (.ref 0), some (.ref 9), some (.ref 66), some (.int (Int32.ofNat i))] [] τ b) : xEX k_L_law 2 (xCd d) F 224 [some (.ref 0), some (.ref 9), some (.ref 66), some (.int (Int32.ofNat i))] [] σ b := by
  have hi2 : i ≤ 3072 := by omega
  have e1 : Int32.toNatClampNeg (Int32.ofNat i + 1) = i + 1 := lw_c (j := 1) hi2 (by decide)
  have e2 : Int32.toNatClampNeg (Int32.ofNat i + 2) = i + 2 := lw_c (j := 2) hi2 (by decide)
  have e3 : Int32.toNatClampNeg (Int32.ofNat i + 3) = i + 3 := lw_c (j := 3) hi2 (by decide)
  refine xgo bx_0 (xbifT (lw_0 hs) (xitT (lw_in (j := 1) hs hN hi (by decide)) (xbifT (lw_0 hs) (xitT (lw_in (j := 2) hs hN hi (by decide)) (xbifT (lw_0 hs) (xitT (lw_in (j := 3) hs hN hi (by decide)) (xbifT (lw_9 hs) ?_)))))))
  simp only [e1, e2, e3]
  refine xuse (xCd_fr (σ0 := σ) 30 _ _ _ _ (lw_sm hs) h) hd ?_
  rintro r τ ⟨q, hsm, hrt⟩
  obtain ⟨v, rfl⟩ := hrt.1 (Or.inl rfl)
  have ht := sm_lw hs hsm
  refine xgo bm_0 (xbifT (lw_0 ht) (xitT (lw_in (j := 1) ht hN hi (by decide)) (xbifT (lw_0 ht) (xitT (lw_in (j := 2) ht hN hi (by decide)) (xbifT (lw_0 ht) (xitT (lw_in (j := 3) ht hN hi (by decide)) (xbifT (lw_66 ht) ?_)))))))
  simp only [e1, e2, e3, hsm.1]
  refine xuse (xCd_fr (σ0 := τ) 30 _ _ _ _ (lw_sm ht) q) hd ?_
  rintro r' τ' ⟨⟨rfl, hP⟩, hsm2, _⟩
  refine xgo be_0 ?_
  rw [if_pos rfl]
  exact k τ' hP (sm_lw ht hsm2)
set_option maxRecDepth 100000 in
theorem bx_1 {C : xC} {Q : xQ} {K : xK} {σ : xH} {b : Nat × Nat} {a3 : Int32} : xrun k_L_law 2 C Q [] K 29 267 [some (.ref 0), some (.ref 9), some (.ref 66), some (.int a3)] [] σ b = (bif xisi σ 0 then (if xin (a3 + 1) (xlen σ.2.2.2.2 0) then (bif xisi σ 0 then (if xin (a3 + 2) (xlen σ.2.2.2.2 0) then (bif xisi σ 0 then (if xin (a3 + 3) (xlen σ.2.2.2.2 0) then (bif xisi σ 0 then (if xin (a3 + 4) (xlen σ.2.2.2.2 0) then (bif xis σ 9 8 then C 134 [.ref 9, .int (σ.1 0 (Int32.toNatClampNeg (a3 + 1))), .int (σ.1 0 (Int32.toNatClampNeg (a3 + 2))), .long (((Int32.toInt64 (σ.1 0 (Int32.toNatClampNeg (a3 + 3)))) <<< (Int32.toInt64 32 &&& 63)) ||| ((Int32.toInt64 (σ.1 0 (Int32.toNatClampNeg (a3 + 4)))) &&& (Int64.ofNat 4294967295)))] σ (fun r τ => K 301 [some (.ref 0), some (.ref 9), some (.ref 66), some (.int a3)] (r.toList ++ []) τ b) else False) else False) else False) else False) else False) else False) else False) else False) else False) := rfl
set_option maxRecDepth 100000 in
theorem bm_1 {C : xC} {Q : xQ} {K : xK} {σ : xH} {b : Nat × Nat} {a3 : Int32} {s0 : Int32} : xrun k_L_law 2 C Q [] K 29 301 [some (.ref 0), some (.ref 9), some (.ref 66), some (.int a3)] [.int s0] σ b = (bif xisi σ 0 then (if xin (a3 + 1) (xlen σ.2.2.2.2 0) then (bif xisi σ 0 then (if xin (a3 + 2) (xlen σ.2.2.2.2 0) then (bif xisi σ 0 then (if xin (a3 + 3) (xlen σ.2.2.2.2 0) then (bif xisi σ 0 then (if xin (a3 + 4) (xlen σ.2.2.2.2 0) then (bif xis σ 66 9 then C 196 [.ref 66, .int (σ.1 0 (Int32.toNatClampNeg (a3 + 1))), .int (σ.1 0 (Int32.toNatClampNeg (a3 + 2))), .long (((Int32.toInt64 (σ.1 0 (Int32.toNatClampNeg (a3 + 3)))) <<< (Int32.toInt64 32 &&& 63)) ||| ((Int32.toInt64 (σ.1 0 (Int32.toNatClampNeg (a3 + 4)))) &&& (Int64.ofNat 4294967295)))] σ (fun r τ => K 335 [some (.ref 0), some (.ref 9), some (.ref 66), some (.int a3)] (r.toList ++ [.int s0]) τ b) else False) else False) else False) else False) else False) else False) else False) else False) else False) := rfl
theorem be_1 {C : xC} {Q : xQ} {K : xK} {σ : xH} {b : Nat × Nat} {a3 : Int32} {s0 s1 : Int32} : xrun k_L_law 2 C Q [] K 1 335 [some (.ref 0), some (.ref 9), some (.ref 66), some (.int a3)] [.int s1, .int s0] σ b = (if s0 = s1 then K 1427 [some (.ref 0), some (.ref 9), some (.ref 66), some (.int a3)] [] σ b else K 338 [some (.ref 0), some (.ref 9), some (.ref 66), some (.int a3)] [] σ b) := rfl
theorem lc_1 {d N i : Nat} {F : xQ} {σ : xH} {b : Nat × Nat} {P : xH → Prop} (hd : 30 ≤ d) (hN : N ≤ 3072) (hs : lwS N σ) (hi : i + 6 ≤ N) (h : xCd 30 134 (.ref 9 :: [.int (σ.1 0 (i + 1)), .int (σ.1 0 (i + 2)), .long (((Int32.toInt64 (σ.1 0 (i + 3))) <<< (Int32.toInt64 32 &&& 63)) ||| ((Int32.toInt64 (σ.1 0 (i + 4))) &&& (Int64.ofNat 4294967295)))]) σ (fun r τ => xCd 30 196 (.ref 66 :: [.int (σ.1 0 (i + 1)), .int (σ.1 0 (i + 2)), .long (((Int32.toInt64 (σ.1 0 (i + 3))) <<< (Int32.toInt64 32 &&& 63)) ||| ((Int32.toInt64 (σ.1 0 (i + 4))) &&& (Int64.ofNat 4294967295)))]) τ (fun r' τ' => r' = r ∧ P τ'))) (k : ∀ τ, P τ → lwS N τ → xEX k_L_law 2 (xCd d) F 1427 [some (.ref 0), some (.ref 9), some (.ref 66), some (.int (Int32.ofNat i))] [] τ b) : xEX k_L_law 2 (xCd d) F 267 [some (.ref 0), some (.ref 9), some (.ref 66), some (.int (Int32.ofNat i))] [] σ b := by
  have hi2 : i ≤ 3072 := by omega
  have e1 : Int32.toNatClampNeg (Int32.ofNat i + 1) = i + 1 := lw_c (j := 1) hi2 (by decide)
  have e2 : Int32.toNatClampNeg (Int32.ofNat i + 2) = i + 2 := lw_c (j := 2) hi2 (by decide)
  have e3 : Int32.toNatClampNeg (Int32.ofNat i + 3) = i + 3 := lw_c (j := 3) hi2 (by decide)
  have e4 : Int32.toNatClampNeg (Int32.ofNat i + 4) = i + 4 := lw_c (j := 4) hi2 (by decide)
  refine xgo bx_1 (xbifT (lw_0 hs) (xitT (lw_in (j := 1) hs hN hi (by decide)) (xbifT (lw_0 hs) (xitT (lw_in (j := 2) hs hN hi (by decide)) (xbifT (lw_0 hs) (xitT (lw_in (j := 3) hs hN hi (by decide)) (xbifT (lw_0 hs) (xitT (lw_in (j := 4) hs hN hi (by decide)) (xbifT (lw_9 hs) ?_)))))))))
  simp only [e1, e2, e3, e4]
  refine xuse (xCd_fr (σ0 := σ) 30 _ _ _ _ (lw_sm hs) h) hd ?_
  rintro r τ ⟨q, hsm, hrt⟩
  obtain ⟨v, rfl⟩ := hrt.1 (Or.inl rfl)
  have ht := sm_lw hs hsm
  refine xgo bm_1 (xbifT (lw_0 ht) (xitT (lw_in (j := 1) ht hN hi (by decide)) (xbifT (lw_0 ht) (xitT (lw_in (j := 2) ht hN hi (by decide)) (xbifT (lw_0 ht) (xitT (lw_in (j := 3) ht hN hi (by decide)) (xbifT (lw_0 ht) (xitT (lw_in (j := 4) ht hN hi (by decide)) (xbifT (lw_66 ht) ?_)))))))))
  simp only [e1, e2, e3, e4, hsm.1]
  refine xuse (xCd_fr (σ0 := τ) 30 _ _ _ _ (lw_sm ht) q) hd ?_
  rintro r' τ' ⟨⟨rfl, hP⟩, hsm2, _⟩
  refine xgo be_1 ?_
  rw [if_pos rfl]
  exact k τ' hP (sm_lw ht hsm2)
set_option maxRecDepth 100000 in
theorem bx_2 {C : xC} {Q : xQ} {K : xK} {σ : xH} {b : Nat × Nat} {a3 : Int32} : xrun k_L_law 2 C Q [] K 27 340 [some (.ref 0), some (.ref 9), some (.ref 66), some (.int a3)] [] σ b = (bif xisi σ 0 then (if xin (a3 + 1) (xlen σ.2.2.2.2 0) then (bif xisi σ 0 then (if xin (a3 + 2) (xlen σ.2.2.2.2 0) then (bif xisi σ 0 then (if xin (a3 + 3) (xlen σ.2.2.2.2 0) then (bif xisi σ 0 then (if xin (a3 + 4) (xlen σ.2.2.2.2 0) then (bif xisi σ 0 then (if xin (a3 + 5) (xlen σ.2.2.2.2 0) then (bif xis σ 9 8 then C 135 [.ref 9, .int (σ.1 0 (Int32.toNatClampNeg (a3 + 1))), .int (σ.1 0 (Int32.toNatClampNeg (a3 + 2))), .int (σ.1 0 (Int32.toNatClampNeg (a3 + 3))), .int (σ.1 0 (Int32.toNatClampNeg (a3 + 4))), .int (σ.1 0 (Int32.toNatClampNeg (a3 + 5)))] σ (fun r τ => K 369 [some (.ref 0), some (.ref 9), some (.ref 66), some (.int a3)] (r.toList ++ []) τ b) else False) else False) else False) else False) else False) else False) else False) else False) else False) else False) else False) := rfl
set_option maxRecDepth 100000 in
theorem bm_2 {C : xC} {Q : xQ} {K : xK} {σ : xH} {b : Nat × Nat} {a3 : Int32} {s0 : Int32} : xrun k_L_law 2 C Q [] K 27 369 [some (.ref 0), some (.ref 9), some (.ref 66), some (.int a3)] [.int s0] σ b = (bif xisi σ 0 then (if xin (a3 + 1) (xlen σ.2.2.2.2 0) then (bif xisi σ 0 then (if xin (a3 + 2) (xlen σ.2.2.2.2 0) then (bif xisi σ 0 then (if xin (a3 + 3) (xlen σ.2.2.2.2 0) then (bif xisi σ 0 then (if xin (a3 + 4) (xlen σ.2.2.2.2 0) then (bif xisi σ 0 then (if xin (a3 + 5) (xlen σ.2.2.2.2 0) then (bif xis σ 66 9 then C 197 [.ref 66, .int (σ.1 0 (Int32.toNatClampNeg (a3 + 1))), .int (σ.1 0 (Int32.toNatClampNeg (a3 + 2))), .int (σ.1 0 (Int32.toNatClampNeg (a3 + 3))), .int (σ.1 0 (Int32.toNatClampNeg (a3 + 4))), .int (σ.1 0 (Int32.toNatClampNeg (a3 + 5)))] σ (fun r τ => K 398 [some (.ref 0), some (.ref 9), some (.ref 66), some (.int a3)] (r.toList ++ [.int s0]) τ b) else False) else False) else False) else False) else False) else False) else False) else False) else False) else False) else False) := rfl
theorem be_2 {C : xC} {Q : xQ} {K : xK} {σ : xH} {b : Nat × Nat} {a3 : Int32} {s0 s1 : Int32} : xrun k_L_law 2 C Q [] K 1 398 [some (.ref 0), some (.ref 9), some (.ref 66), some (.int a3)] [.int s1, .int s0] σ b = (if s0 = s1 then K 1427 [some (.ref 0), some (.ref 9), some (.ref 66), some (.int a3)] [] σ b else K 401 [some (.ref 0), some (.ref 9), some (.ref 66), some (.int a3)] [] σ b) := rfl
theorem lc_2 {d N i : Nat} {F : xQ} {σ : xH} {b : Nat × Nat} {P : xH → Prop} (hd : 30 ≤ d) (hN : N ≤ 3072) (hs : lwS N σ) (hi : i + 6 ≤ N) (h : xCd 30 135 (.ref 9 :: [.int (σ.1 0 (i + 1)), .int (σ.1 0 (i + 2)), .int (σ.1 0 (i + 3)), .int (σ.1 0 (i + 4)), .int (σ.1 0 (i + 5))]) σ (fun r τ => xCd 30 197 (.ref 66 :: [.int (σ.1 0 (i + 1)), .int (σ.1 0 (i + 2)), .int (σ.1 0 (i + 3)), .int (σ.1 0 (i + 4)), .int (σ.1 0 (i + 5))]) τ (fun r' τ' => r' = r ∧ P τ'))) (k : ∀ τ, P τ → lwS N τ → xEX k_L_law 2 (xCd d) F 1427 [some (.ref 0), some (.ref 9), some (.ref 66), some (.int (Int32.ofNat i))] [] τ b) : xEX k_L_law 2 (xCd d) F 340 [some (.ref 0), some (.ref 9), some (.ref 66), some (.int (Int32.ofNat i))] [] σ b := by
  have hi2 : i ≤ 3072 := by omega
  have e1 : Int32.toNatClampNeg (Int32.ofNat i + 1) = i + 1 := lw_c (j := 1) hi2 (by decide)
  have e2 : Int32.toNatClampNeg (Int32.ofNat i + 2) = i + 2 := lw_c (j := 2) hi2 (by decide)
  have e3 : Int32.toNatClampNeg (Int32.ofNat i + 3) = i + 3 := lw_c (j := 3) hi2 (by decide)
  have e4 : Int32.toNatClampNeg (Int32.ofNat i + 4) = i + 4 := lw_c (j := 4) hi2 (by decide)
  have e5 : Int32.toNatClampNeg (Int32.ofNat i + 5) = i + 5 := lw_c (j := 5) hi2 (by decide)
  refine xgo bx_2 (xbifT (lw_0 hs) (xitT (lw_in (j := 1) hs hN hi (by decide)) (xbifT (lw_0 hs) (xitT (lw_in (j := 2) hs hN hi (by decide)) (xbifT (lw_0 hs) (xitT (lw_in (j := 3) hs hN hi (by decide)) (xbifT (lw_0 hs) (xitT (lw_in (j := 4) hs hN hi (by decide)) (xbifT (lw_0 hs) (xitT (lw_in (j := 5) hs hN hi (by decide)) (xbifT (lw_9 hs) ?_)))))))))))
  simp only [e1, e2, e3, e4, e5]
  refine xuse (xCd_fr (σ0 := σ) 30 _ _ _ _ (lw_sm hs) h) hd ?_
  rintro r τ ⟨q, hsm, hrt⟩
  obtain ⟨v, rfl⟩ := hrt.1 (Or.inl rfl)
  have ht := sm_lw hs hsm
  refine xgo bm_2 (xbifT (lw_0 ht) (xitT (lw_in (j := 1) ht hN hi (by decide)) (xbifT (lw_0 ht) (xitT (lw_in (j := 2) ht hN hi (by decide)) (xbifT (lw_0 ht) (xitT (lw_in (j := 3) ht hN hi (by decide)) (xbifT (lw_0 ht) (xitT (lw_in (j := 4) ht hN hi (by decide)) (xbifT (lw_0 ht) (xitT (lw_in (j := 5) ht hN hi (by decide)) (xbifT (lw_66 ht) ?_)))))))))))
  simp only [e1, e2, e3, e4, e5, hsm.1]
  refine xuse (xCd_fr (σ0 := τ) 30 _ _ _ _ (lw_sm ht) q) hd ?_
  rintro r' τ' ⟨⟨rfl, hP⟩, hsm2, _⟩
  refine xgo be_2 ?_
  rw [if_pos rfl]
  exact k τ' hP (sm_lw ht hsm2)
set_option maxRecDepth 100000 in
theorem bx_3 {C : xC} {Q : xQ} {K : xK} {σ : xH} {b : Nat × Nat} {a3 : Int32} : xrun k_L_law 2 C Q [] K 12 403 [some (.ref 0), some (.ref 9), some (.ref 66), some (.int a3)] [] σ b = (bif xisi σ 0 then (if xin (a3 + 1) (xlen σ.2.2.2.2 0) then (bif xisi σ 0 then (if xin (a3 + 2) (xlen σ.2.2.2.2 0) then (bif xis σ 9 8 then C 136 [.ref 9, .int (σ.1 0 (Int32.toNatClampNeg (a3 + 1))), .int (σ.1 0 (Int32.toNatClampNeg (a3 + 2)))] σ (fun r τ => K 417 [some (.ref 0), some (.ref 9), some (.ref 66), some (.int a3)] (r.toList ++ []) τ b) else False) else False) else False) else False) else False) := rfl
set_option maxRecDepth 100000 in
theorem bm_3 {C : xC} {Q : xQ} {K : xK} {σ : xH} {b : Nat × Nat} {a3 : Int32} {s0 : Int64} : xrun k_L_law 2 C Q [] K 12 417 [some (.ref 0), some (.ref 9), some (.ref 66), some (.int a3)] [.long s0] σ b = (bif xisi σ 0 then (if xin (a3 + 1) (xlen σ.2.2.2.2 0) then (bif xisi σ 0 then (if xin (a3 + 2) (xlen σ.2.2.2.2 0) then (bif xis σ 66 9 then C 198 [.ref 66, .int (σ.1 0 (Int32.toNatClampNeg (a3 + 1))), .int (σ.1 0 (Int32.toNatClampNeg (a3 + 2)))] σ (fun r τ => K 431 [some (.ref 0), some (.ref 9), some (.ref 66), some (.int a3)] (r.toList ++ [.long s0]) τ b) else False) else False) else False) else False) else False) := rfl
theorem be_3 {C : xC} {Q : xQ} {K : xK} {σ : xH} {b : Nat × Nat} {a3 : Int32} {s0 s1 : Int64} : xrun k_L_law 2 C Q [] K 2 431 [some (.ref 0), some (.ref 9), some (.ref 66), some (.int a3)] [.long s1, .long s0] σ b = (if (if s0 < s1 then -1 else if s0 = s1 then 0 else 1 : Int32) = 0 then K 1427 [some (.ref 0), some (.ref 9), some (.ref 66), some (.int a3)] [] σ b else K 435 [some (.ref 0), some (.ref 9), some (.ref 66), some (.int a3)] [] σ b) := rfl
theorem lc_3 {d N i : Nat} {F : xQ} {σ : xH} {b : Nat × Nat} {P : xH → Prop} (hd : 30 ≤ d) (hN : N ≤ 3072) (hs : lwS N σ) (hi : i + 6 ≤ N) (h : xCd 30 136 (.ref 9 :: [.int (σ.1 0 (i + 1)), .int (σ.1 0 (i + 2))]) σ (fun r τ => xCd 30 198 (.ref 66 :: [.int (σ.1 0 (i + 1)), .int (σ.1 0 (i + 2))]) τ (fun r' τ' => r' = r ∧ P τ'))) (k : ∀ τ, P τ → lwS N τ → xEX k_L_law 2 (xCd d) F 1427 [some (.ref 0), some (.ref 9), some (.ref 66), some (.int (Int32.ofNat i))] [] τ b) : xEX k_L_law 2 (xCd d) F 403 [some (.ref 0), some (.ref 9), some (.ref 66), some (.int (Int32.ofNat i))] [] σ b := by
  have hi2 : i ≤ 3072 := by omega
  have e1 : Int32.toNatClampNeg (Int32.ofNat i + 1) = i + 1 := lw_c (j := 1) hi2 (by decide)
  have e2 : Int32.toNatClampNeg (Int32.ofNat i + 2) = i + 2 := lw_c (j := 2) hi2 (by decide)
  refine xgo bx_3 (xbifT (lw_0 hs) (xitT (lw_in (j := 1) hs hN hi (by decide)) (xbifT (lw_0 hs) (xitT (lw_in (j := 2) hs hN hi (by decide)) (xbifT (lw_9 hs) ?_)))))
  simp only [e1, e2]
  refine xuse (xCd_fr (σ0 := σ) 30 _ _ _ _ (lw_sm hs) h) hd ?_
  rintro r τ ⟨q, hsm, hrt⟩
  obtain ⟨v, rfl⟩ := hrt.2 rfl
  have ht := sm_lw hs hsm
  refine xgo bm_3 (xbifT (lw_0 ht) (xitT (lw_in (j := 1) ht hN hi (by decide)) (xbifT (lw_0 ht) (xitT (lw_in (j := 2) ht hN hi (by decide)) (xbifT (lw_66 ht) ?_)))))
  simp only [e1, e2, hsm.1]
  refine xuse (xCd_fr (σ0 := τ) 30 _ _ _ _ (lw_sm ht) q) hd ?_
  rintro r' τ' ⟨⟨rfl, hP⟩, hsm2, _⟩
  refine xgo be_3 ?_
  rw [if_neg (show ¬ v < v from Int64.lt_irrefl), if_pos rfl, if_pos rfl]
  exact k τ' hP (sm_lw ht hsm2)
set_option maxRecDepth 100000 in
theorem bx_4 {C : xC} {Q : xQ} {K : xK} {σ : xH} {b : Nat × Nat} {a3 : Int32} : xrun k_L_law 2 C Q [] K 7 437 [some (.ref 0), some (.ref 9), some (.ref 66), some (.int a3)] [] σ b = (bif xisi σ 0 then (if xin (a3 + 1) (xlen σ.2.2.2.2 0) then (bif xis σ 9 8 then C 137 [.ref 9, .int (σ.1 0 (Int32.toNatClampNeg (a3 + 1)))] σ (fun r τ => K 446 [some (.ref 0), some (.ref 9), some (.ref 66), some (.int a3)] (r.toList ++ []) τ b) else False) else False) else False) := rfl
set_option maxRecDepth 100000 in
theorem bm_4 {C : xC} {Q : xQ} {K : xK} {σ : xH} {b : Nat × Nat} {a3 : Int32} {s0 : Int32} : xrun k_L_law 2 C Q [] K 7 446 [some (.ref 0), some (.ref 9), some (.ref 66), some (.int a3)] [.int s0] σ b = (bif xisi σ 0 then (if xin (a3 + 1) (xlen σ.2.2.2.2 0) then (bif xis σ 66 9 then C 199 [.ref 66, .int (σ.1 0 (Int32.toNatClampNeg (a3 + 1)))] σ (fun r τ => K 455 [some (.ref 0), some (.ref 9), some (.ref 66), some (.int a3)] (r.toList ++ [.int s0]) τ b) else False) else False) else False) := rfl
theorem be_4 {C : xC} {Q : xQ} {K : xK} {σ : xH} {b : Nat × Nat} {a3 : Int32} {s0 s1 : Int32} : xrun k_L_law 2 C Q [] K 1 455 [some (.ref 0), some (.ref 9), some (.ref 66), some (.int a3)] [.int s1, .int s0] σ b = (if s0 = s1 then K 1427 [some (.ref 0), some (.ref 9), some (.ref 66), some (.int a3)] [] σ b else K 458 [some (.ref 0), some (.ref 9), some (.ref 66), some (.int a3)] [] σ b) := rfl
theorem lc_4 {d N i : Nat} {F : xQ} {σ : xH} {b : Nat × Nat} {P : xH → Prop} (hd : 30 ≤ d) (hN : N ≤ 3072) (hs : lwS N σ) (hi : i + 6 ≤ N) (h : xCd 30 137 (.ref 9 :: [.int (σ.1 0 (i + 1))]) σ (fun r τ => xCd 30 199 (.ref 66 :: [.int (σ.1 0 (i + 1))]) τ (fun r' τ' => r' = r ∧ P τ'))) (k : ∀ τ, P τ → lwS N τ → xEX k_L_law 2 (xCd d) F 1427 [some (.ref 0), some (.ref 9), some (.ref 66), some (.int (Int32.ofNat i))] [] τ b) : xEX k_L_law 2 (xCd d) F 437 [some (.ref 0), some (.ref 9), some (.ref 66), some (.int (Int32.ofNat i))] [] σ b := by
  have hi2 : i ≤ 3072 := by omega
  have e1 : Int32.toNatClampNeg (Int32.ofNat i + 1) = i + 1 := lw_c (j := 1) hi2 (by decide)
  refine xgo bx_4 (xbifT (lw_0 hs) (xitT (lw_in (j := 1) hs hN hi (by decide)) (xbifT (lw_9 hs) ?_)))
  simp only [e1]
  refine xuse (xCd_fr (σ0 := σ) 30 _ _ _ _ (lw_sm hs) h) hd ?_
  rintro r τ ⟨q, hsm, hrt⟩
  obtain ⟨v, rfl⟩ := hrt.1 (Or.inl rfl)
  have ht := sm_lw hs hsm
  refine xgo bm_4 (xbifT (lw_0 ht) (xitT (lw_in (j := 1) ht hN hi (by decide)) (xbifT (lw_66 ht) ?_)))
  simp only [e1, hsm.1]
  refine xuse (xCd_fr (σ0 := τ) 30 _ _ _ _ (lw_sm ht) q) hd ?_
  rintro r' τ' ⟨⟨rfl, hP⟩, hsm2, _⟩
  refine xgo be_4 ?_
  rw [if_pos rfl]
  exact k τ' hP (sm_lw ht hsm2)
set_option maxRecDepth 100000 in
theorem bx_5 {C : xC} {Q : xQ} {K : xK} {σ : xH} {b : Nat × Nat} {a3 : Int32} : xrun k_L_law 2 C Q [] K 12 460 [some (.ref 0), some (.ref 9), some (.ref 66), some (.int a3)] [] σ b = (bif xisi σ 0 then (if xin (a3 + 1) (xlen σ.2.2.2.2 0) then (bif xisi σ 0 then (if xin (a3 + 2) (xlen σ.2.2.2.2 0) then (bif xis σ 9 8 then C 138 [.ref 9, .int (σ.1 0 (Int32.toNatClampNeg (a3 + 1))), .int (σ.1 0 (Int32.toNatClampNeg (a3 + 2)))] σ (fun r τ => K 474 [some (.ref 0), some (.ref 9), some (.ref 66), some (.int a3)] (r.toList ++ []) τ b) else False) else False) else False) else False) else False) := rfl
set_option maxRecDepth 100000 in
theorem bm_5 {C : xC} {Q : xQ} {K : xK} {σ : xH} {b : Nat × Nat} {a3 : Int32} {s0 : Int32} : xrun k_L_law 2 C Q [] K 12 474 [some (.ref 0), some (.ref 9), some (.ref 66), some (.int a3)] [.int s0] σ b = (bif xisi σ 0 then (if xin (a3 + 1) (xlen σ.2.2.2.2 0) then (bif xisi σ 0 then (if xin (a3 + 2) (xlen σ.2.2.2.2 0) then (bif xis σ 66 9 then C 200 [.ref 66, .int (σ.1 0 (Int32.toNatClampNeg (a3 + 1))), .int (σ.1 0 (Int32.toNatClampNeg (a3 + 2)))] σ (fun r τ => K 488 [some (.ref 0), some (.ref 9), some (.ref 66), some (.int a3)] (r.toList ++ [.int s0]) τ b) else False) else False) else False) else False) else False) := rfl
theorem be_5 {C : xC} {Q : xQ} {K : xK} {σ : xH} {b : Nat × Nat} {a3 : Int32} {s0 s1 : Int32} : xrun k_L_law 2 C Q [] K 1 488 [some (.ref 0), some (.ref 9), some (.ref 66), some (.int a3)] [.int s1, .int s0] σ b = (if s0 = s1 then K 1427 [some (.ref 0), some (.ref 9), some (.ref 66), some (.int a3)] [] σ b else K 491 [some (.ref 0), some (.ref 9), some (.ref 66), some (.int a3)] [] σ b) := rfl
theorem lc_5 {d N i : Nat} {F : xQ} {σ : xH} {b : Nat × Nat} {P : xH → Prop} (hd : 30 ≤ d) (hN : N ≤ 3072) (hs : lwS N σ) (hi : i + 6 ≤ N) (h : xCd 30 138 (.ref 9 :: [.int (σ.1 0 (i + 1)), .int (σ.1 0 (i + 2))]) σ (fun r τ => xCd 30 200 (.ref 66 :: [.int (σ.1 0 (i + 1)), .int (σ.1 0 (i + 2))]) τ (fun r' τ' => r' = r ∧ P τ'))) (k : ∀ τ, P τ → lwS N τ → xEX k_L_law 2 (xCd d) F 1427 [some (.ref 0), some (.ref 9), some (.ref 66), some (.int (Int32.ofNat i))] [] τ b) : xEX k_L_law 2 (xCd d) F 460 [some (.ref 0), some (.ref 9), some (.ref 66), some (.int (Int32.ofNat i))] [] σ b := by
  have hi2 : i ≤ 3072 := by omega
  have e1 : Int32.toNatClampNeg (Int32.ofNat i + 1) = i + 1 := lw_c (j := 1) hi2 (by decide)
  have e2 : Int32.toNatClampNeg (Int32.ofNat i + 2) = i + 2 := lw_c (j := 2) hi2 (by decide)
  refine xgo bx_5 (xbifT (lw_0 hs) (xitT (lw_in (j := 1) hs hN hi (by decide)) (xbifT (lw_0 hs) (xitT (lw_in (j := 2) hs hN hi (by decide)) (xbifT (lw_9 hs) ?_)))))
  simp only [e1, e2]
  refine xuse (xCd_fr (σ0 := σ) 30 _ _ _ _ (lw_sm hs) h) hd ?_
  rintro r τ ⟨q, hsm, hrt⟩
  obtain ⟨v, rfl⟩ := hrt.1 (Or.inl rfl)
  have ht := sm_lw hs hsm
  refine xgo bm_5 (xbifT (lw_0 ht) (xitT (lw_in (j := 1) ht hN hi (by decide)) (xbifT (lw_0 ht) (xitT (lw_in (j := 2) ht hN hi (by decide)) (xbifT (lw_66 ht) ?_)))))
  simp only [e1, e2, hsm.1]
  refine xuse (xCd_fr (σ0 := τ) 30 _ _ _ _ (lw_sm ht) q) hd ?_
  rintro r' τ' ⟨⟨rfl, hP⟩, hsm2, _⟩
  refine xgo be_5 ?_
  rw [if_pos rfl]
  exact k τ' hP (sm_lw ht hsm2)
set_option maxRecDepth 100000 in
theorem bx_6 {C : xC} {Q : xQ} {K : xK} {σ : xH} {b : Nat × Nat} {a3 : Int32} : xrun k_L_law 2 C Q [] K 12 493 [some (.ref 0), some (.ref 9), some (.ref 66), some (.int a3)] [] σ b = (bif xisi σ 0 then (if xin (a3 + 1) (xlen σ.2.2.2.2 0) then (bif xisi σ 0 then (if xin (a3 + 2) (xlen σ.2.2.2.2 0) then (bif xis σ 9 8 then C 139 [.ref 9, .int (σ.1 0 (Int32.toNatClampNeg (a3 + 1))), .int (σ.1 0 (Int32.toNatClampNeg (a3 + 2)))] σ (fun r τ => K 507 [some (.ref 0), some (.ref 9), some (.ref 66), some (.int a3)] (r.toList ++ []) τ b) else False) else False) else False) else False) else False) := rfl
set_option maxRecDepth 100000 in
theorem bm_6 {C : xC} {Q : xQ} {K : xK} {σ : xH} {b : Nat × Nat} {a3 : Int32} {s0 : Int32} : xrun k_L_law 2 C Q [] K 12 507 [some (.ref 0), some (.ref 9), some (.ref 66), some (.int a3)] [.int s0] σ b = (bif xisi σ 0 then (if xin (a3 + 1) (xlen σ.2.2.2.2 0) then (bif xisi σ 0 then (if xin (a3 + 2) (xlen σ.2.2.2.2 0) then (bif xis σ 66 9 then C 202 [.ref 66, .int (σ.1 0 (Int32.toNatClampNeg (a3 + 1))), .int (σ.1 0 (Int32.toNatClampNeg (a3 + 2)))] σ (fun r τ => K 521 [some (.ref 0), some (.ref 9), some (.ref 66), some (.int a3)] (r.toList ++ [.int s0]) τ b) else False) else False) else False) else False) else False) := rfl
theorem be_6 {C : xC} {Q : xQ} {K : xK} {σ : xH} {b : Nat × Nat} {a3 : Int32} {s0 s1 : Int32} : xrun k_L_law 2 C Q [] K 1 521 [some (.ref 0), some (.ref 9), some (.ref 66), some (.int a3)] [.int s1, .int s0] σ b = (if s0 = s1 then K 1427 [some (.ref 0), some (.ref 9), some (.ref 66), some (.int a3)] [] σ b else K 524 [some (.ref 0), some (.ref 9), some (.ref 66), some (.int a3)] [] σ b) := rfl
theorem lc_6 {d N i : Nat} {F : xQ} {σ : xH} {b : Nat × Nat} {P : xH → Prop} (hd : 30 ≤ d) (hN : N ≤ 3072) (hs : lwS N σ) (hi : i + 6 ≤ N) (h : xCd 30 139 (.ref 9 :: [.int (σ.1 0 (i + 1)), .int (σ.1 0 (i + 2))]) σ (fun r τ => xCd 30 202 (.ref 66 :: [.int (σ.1 0 (i + 1)), .int (σ.1 0 (i + 2))]) τ (fun r' τ' => r' = r ∧ P τ'))) (k : ∀ τ, P τ → lwS N τ → xEX k_L_law 2 (xCd d) F 1427 [some (.ref 0), some (.ref 9), some (.ref 66), some (.int (Int32.ofNat i))] [] τ b) : xEX k_L_law 2 (xCd d) F 493 [some (.ref 0), some (.ref 9), some (.ref 66), some (.int (Int32.ofNat i))] [] σ b := by
  have hi2 : i ≤ 3072 := by omega
  have e1 : Int32.toNatClampNeg (Int32.ofNat i + 1) = i + 1 := lw_c (j := 1) hi2 (by decide)
  have e2 : Int32.toNatClampNeg (Int32.ofNat i + 2) = i + 2 := lw_c (j := 2) hi2 (by decide)
  refine xgo bx_6 (xbifT (lw_0 hs) (xitT (lw_in (j := 1) hs hN hi (by decide)) (xbifT (lw_0 hs) (xitT (lw_in (j := 2) hs hN hi (by decide)) (xbifT (lw_9 hs) ?_)))))
  simp only [e1, e2]
  refine xuse (xCd_fr (σ0 := σ) 30 _ _ _ _ (lw_sm hs) h) hd ?_
  rintro r τ ⟨q, hsm, hrt⟩
  obtain ⟨v, rfl⟩ := hrt.1 (Or.inl rfl)
  have ht := sm_lw hs hsm
  refine xgo bm_6 (xbifT (lw_0 ht) (xitT (lw_in (j := 1) ht hN hi (by decide)) (xbifT (lw_0 ht) (xitT (lw_in (j := 2) ht hN hi (by decide)) (xbifT (lw_66 ht) ?_)))))
  simp only [e1, e2, hsm.1]
  refine xuse (xCd_fr (σ0 := τ) 30 _ _ _ _ (lw_sm ht) q) hd ?_
  rintro r' τ' ⟨⟨rfl, hP⟩, hsm2, _⟩
  refine xgo be_6 ?_
  rw [if_pos rfl]
  exact k τ' hP (sm_lw ht hsm2)
set_option maxRecDepth 100000 in
theorem bx_7 {C : xC} {Q : xQ} {K : xK} {σ : xH} {b : Nat × Nat} {a3 : Int32} : xrun k_L_law 2 C Q [] K 7 526 [some (.ref 0), some (.ref 9), some (.ref 66), some (.int a3)] [] σ b = (bif xisi σ 0 then (if xin (a3 + 1) (xlen σ.2.2.2.2 0) then (bif xis σ 9 8 then C 140 [.ref 9, .int (σ.1 0 (Int32.toNatClampNeg (a3 + 1)))] σ (fun r τ => K 535 [some (.ref 0), some (.ref 9), some (.ref 66), some (.int a3)] (r.toList ++ []) τ b) else False) else False) else False) := rfl
set_option maxRecDepth 100000 in
theorem bm_7 {C : xC} {Q : xQ} {K : xK} {σ : xH} {b : Nat × Nat} {a3 : Int32} {s0 : Int32} : xrun k_L_law 2 C Q [] K 7 535 [some (.ref 0), some (.ref 9), some (.ref 66), some (.int a3)] [.int s0] σ b = (bif xisi σ 0 then (if xin (a3 + 1) (xlen σ.2.2.2.2 0) then (bif xis σ 66 9 then C 206 [.ref 66, .int (σ.1 0 (Int32.toNatClampNeg (a3 + 1)))] σ (fun r τ => K 544 [some (.ref 0), some (.ref 9), some (.ref 66), some (.int a3)] (r.toList ++ [.int s0]) τ b) else False) else False) else False) := rfl
theorem be_7 {C : xC} {Q : xQ} {K : xK} {σ : xH} {b : Nat × Nat} {a3 : Int32} {s0 s1 : Int32} : xrun k_L_law 2 C Q [] K 1 544 [some (.ref 0), some (.ref 9), some (.ref 66), some (.int a3)] [.int s1, .int s0] σ b = (if s0 = s1 then K 1427 [some (.ref 0), some (.ref 9), some (.ref 66), some (.int a3)] [] σ b else K 547 [some (.ref 0), some (.ref 9), some (.ref 66), some (.int a3)] [] σ b) := rfl
theorem lc_7 {d N i : Nat} {F : xQ} {σ : xH} {b : Nat × Nat} {P : xH → Prop} (hd : 30 ≤ d) (hN : N ≤ 3072) (hs : lwS N σ) (hi : i + 6 ≤ N) (h : xCd 30 140 (.ref 9 :: [.int (σ.1 0 (i + 1))]) σ (fun r τ => xCd 30 206 (.ref 66 :: [.int (σ.1 0 (i + 1))]) τ (fun r' τ' => r' = r ∧ P τ'))) (k : ∀ τ, P τ → lwS N τ → xEX k_L_law 2 (xCd d) F 1427 [some (.ref 0), some (.ref 9), some (.ref 66), some (.int (Int32.ofNat i))] [] τ b) : xEX k_L_law 2 (xCd d) F 526 [some (.ref 0), some (.ref 9), some (.ref 66), some (.int (Int32.ofNat i))] [] σ b := by
  have hi2 : i ≤ 3072 := by omega
  have e1 : Int32.toNatClampNeg (Int32.ofNat i + 1) = i + 1 := lw_c (j := 1) hi2 (by decide)
  refine xgo bx_7 (xbifT (lw_0 hs) (xitT (lw_in (j := 1) hs hN hi (by decide)) (xbifT (lw_9 hs) ?_)))
  simp only [e1]
  refine xuse (xCd_fr (σ0 := σ) 30 _ _ _ _ (lw_sm hs) h) hd ?_
  rintro r τ ⟨q, hsm, hrt⟩
  obtain ⟨v, rfl⟩ := hrt.1 (Or.inl rfl)
  have ht := sm_lw hs hsm
  refine xgo bm_7 (xbifT (lw_0 ht) (xitT (lw_in (j := 1) ht hN hi (by decide)) (xbifT (lw_66 ht) ?_)))
  simp only [e1, hsm.1]
  refine xuse (xCd_fr (σ0 := τ) 30 _ _ _ _ (lw_sm ht) q) hd ?_
  rintro r' τ' ⟨⟨rfl, hP⟩, hsm2, _⟩
  refine xgo be_7 ?_
  rw [if_pos rfl]
  exact k τ' hP (sm_lw ht hsm2)
set_option maxRecDepth 100000 in
theorem bx_8 {C : xC} {Q : xQ} {K : xK} {σ : xH} {b : Nat × Nat} {a3 : Int32} : xrun k_L_law 2 C Q [] K 7 549 [some (.ref 0), some (.ref 9), some (.ref 66), some (.int a3)] [] σ b = (bif xisi σ 0 then (if xin (a3 + 1) (xlen σ.2.2.2.2 0) then (bif xis σ 9 8 then C 141 [.ref 9, .int (σ.1 0 (Int32.toNatClampNeg (a3 + 1)))] σ (fun r τ => K 558 [some (.ref 0), some (.ref 9), some (.ref 66), some (.int a3)] (r.toList ++ []) τ b) else False) else False) else False) := rfl
set_option maxRecDepth 100000 in
theorem bm_8 {C : xC} {Q : xQ} {K : xK} {σ : xH} {b : Nat × Nat} {a3 : Int32} {s0 : Int32} : xrun k_L_law 2 C Q [] K 7 558 [some (.ref 0), some (.ref 9), some (.ref 66), some (.int a3)] [.int s0] σ b = (bif xisi σ 0 then (if xin (a3 + 1) (xlen σ.2.2.2.2 0) then (bif xis σ 66 9 then C 210 [.ref 66, .int (σ.1 0 (Int32.toNatClampNeg (a3 + 1)))] σ (fun r τ => K 567 [some (.ref 0), some (.ref 9), some (.ref 66), some (.int a3)] (r.toList ++ [.int s0]) τ b) else False) else False) else False) := rfl
theorem be_8 {C : xC} {Q : xQ} {K : xK} {σ : xH} {b : Nat × Nat} {a3 : Int32} {s0 s1 : Int32} : xrun k_L_law 2 C Q [] K 1 567 [some (.ref 0), some (.ref 9), some (.ref 66), some (.int a3)] [.int s1, .int s0] σ b = (if s0 = s1 then K 1427 [some (.ref 0), some (.ref 9), some (.ref 66), some (.int a3)] [] σ b else K 570 [some (.ref 0), some (.ref 9), some (.ref 66), some (.int a3)] [] σ b) := rfl
theorem lc_8 {d N i : Nat} {F : xQ} {σ : xH} {b : Nat × Nat} {P : xH → Prop} (hd : 30 ≤ d) (hN : N ≤ 3072) (hs : lwS N σ) (hi : i + 6 ≤ N) (h : xCd 30 141 (.ref 9 :: [.int (σ.1 0 (i + 1))]) σ (fun r τ => xCd 30 210 (.ref 66 :: [.int (σ.1 0 (i + 1))]) τ (fun r' τ' => r' = r ∧ P τ'))) (k : ∀ τ, P τ → lwS N τ → xEX k_L_law 2 (xCd d) F 1427 [some (.ref 0), some (.ref 9), some (.ref 66), some (.int (Int32.ofNat i))] [] τ b) : xEX k_L_law 2 (xCd d) F 549 [some (.ref 0), some (.ref 9), some (.ref 66), some (.int (Int32.ofNat i))] [] σ b := by
  have hi2 : i ≤ 3072 := by omega
  have e1 : Int32.toNatClampNeg (Int32.ofNat i + 1) = i + 1 := lw_c (j := 1) hi2 (by decide)
  refine xgo bx_8 (xbifT (lw_0 hs) (xitT (lw_in (j := 1) hs hN hi (by decide)) (xbifT (lw_9 hs) ?_)))
  simp only [e1]
  refine xuse (xCd_fr (σ0 := σ) 30 _ _ _ _ (lw_sm hs) h) hd ?_
  rintro r τ ⟨q, hsm, hrt⟩
  obtain ⟨v, rfl⟩ := hrt.1 (Or.inl rfl)
  have ht := sm_lw hs hsm
  refine xgo bm_8 (xbifT (lw_0 ht) (xitT (lw_in (j := 1) ht hN hi (by decide)) (xbifT (lw_66 ht) ?_)))
  simp only [e1, hsm.1]
  refine xuse (xCd_fr (σ0 := τ) 30 _ _ _ _ (lw_sm ht) q) hd ?_
  rintro r' τ' ⟨⟨rfl, hP⟩, hsm2, _⟩
  refine xgo be_8 ?_
  rw [if_pos rfl]
  exact k τ' hP (sm_lw ht hsm2)
set_option maxRecDepth 100000 in
theorem bx_9 {C : xC} {Q : xQ} {K : xK} {σ : xH} {b : Nat × Nat} {a3 : Int32} : xrun k_L_law 2 C Q [] K 7 572 [some (.ref 0), some (.ref 9), some (.ref 66), some (.int a3)] [] σ b = (bif xisi σ 0 then (if xin (a3 + 1) (xlen σ.2.2.2.2 0) then (bif xis σ 9 8 then C 142 [.ref 9, .int (σ.1 0 (Int32.toNatClampNeg (a3 + 1)))] σ (fun r τ => K 581 [some (.ref 0), some (.ref 9), some (.ref 66), some (.int a3)] (r.toList ++ []) τ b) else False) else False) else False) := rfl
set_option maxRecDepth 100000 in
theorem bm_9 {C : xC} {Q : xQ} {K : xK} {σ : xH} {b : Nat × Nat} {a3 : Int32} {s0 : Int32} : xrun k_L_law 2 C Q [] K 7 581 [some (.ref 0), some (.ref 9), some (.ref 66), some (.int a3)] [.int s0] σ b = (bif xisi σ 0 then (if xin (a3 + 1) (xlen σ.2.2.2.2 0) then (bif xis σ 66 9 then C 211 [.ref 66, .int (σ.1 0 (Int32.toNatClampNeg (a3 + 1)))] σ (fun r τ => K 590 [some (.ref 0), some (.ref 9), some (.ref 66), some (.int a3)] (r.toList ++ [.int s0]) τ b) else False) else False) else False) := rfl
theorem be_9 {C : xC} {Q : xQ} {K : xK} {σ : xH} {b : Nat × Nat} {a3 : Int32} {s0 s1 : Int32} : xrun k_L_law 2 C Q [] K 1 590 [some (.ref 0), some (.ref 9), some (.ref 66), some (.int a3)] [.int s1, .int s0] σ b = (if s0 = s1 then K 1427 [some (.ref 0), some (.ref 9), some (.ref 66), some (.int a3)] [] σ b else K 593 [some (.ref 0), some (.ref 9), some (.ref 66), some (.int a3)] [] σ b) := rfl
theorem lc_9 {d N i : Nat} {F : xQ} {σ : xH} {b : Nat × Nat} {P : xH → Prop} (hd : 30 ≤ d) (hN : N ≤ 3072) (hs : lwS N σ) (hi : i + 6 ≤ N) (h : xCd 30 142 (.ref 9 :: [.int (σ.1 0 (i + 1))]) σ (fun r τ => xCd 30 211 (.ref 66 :: [.int (σ.1 0 (i + 1))]) τ (fun r' τ' => r' = r ∧ P τ'))) (k : ∀ τ, P τ → lwS N τ → xEX k_L_law 2 (xCd d) F 1427 [some (.ref 0), some (.ref 9), some (.ref 66), some (.int (Int32.ofNat i))] [] τ b) : xEX k_L_law 2 (xCd d) F 572 [some (.ref 0), some (.ref 9), some (.ref 66), some (.int (Int32.ofNat i))] [] σ b := by
  have hi2 : i ≤ 3072 := by omega
  have e1 : Int32.toNatClampNeg (Int32.ofNat i + 1) = i + 1 := lw_c (j := 1) hi2 (by decide)
  refine xgo bx_9 (xbifT (lw_0 hs) (xitT (lw_in (j := 1) hs hN hi (by decide)) (xbifT (lw_9 hs) ?_)))
  simp only [e1]
  refine xuse (xCd_fr (σ0 := σ) 30 _ _ _ _ (lw_sm hs) h) hd ?_
  rintro r τ ⟨q, hsm, hrt⟩
  obtain ⟨v, rfl⟩ := hrt.1 (Or.inl rfl)
  have ht := sm_lw hs hsm
  refine xgo bm_9 (xbifT (lw_0 ht) (xitT (lw_in (j := 1) ht hN hi (by decide)) (xbifT (lw_66 ht) ?_)))
  simp only [e1, hsm.1]
  refine xuse (xCd_fr (σ0 := τ) 30 _ _ _ _ (lw_sm ht) q) hd ?_
  rintro r' τ' ⟨⟨rfl, hP⟩, hsm2, _⟩
  refine xgo be_9 ?_
  rw [if_pos rfl]
  exact k τ' hP (sm_lw ht hsm2)
set_option maxRecDepth 100000 in
theorem bx_10 {C : xC} {Q : xQ} {K : xK} {σ : xH} {b : Nat × Nat} {a3 : Int32} : xrun k_L_law 2 C Q [] K 17 595 [some (.ref 0), some (.ref 9), some (.ref 66), some (.int a3)] [] σ b = (bif xisi σ 0 then (if xin (a3 + 1) (xlen σ.2.2.2.2 0) then (bif xisi σ 0 then (if xin (a3 + 2) (xlen σ.2.2.2.2 0) then (bif xisi σ 0 then (if xin (a3 + 3) (xlen σ.2.2.2.2 0) then (bif xis σ 9 8 then C 143 [.ref 9, .int (σ.1 0 (Int32.toNatClampNeg (a3 + 1))), .int (σ.1 0 (Int32.toNatClampNeg (a3 + 2))), .int (σ.1 0 (Int32.toNatClampNeg (a3 + 3)))] σ (fun r τ => K 614 [some (.ref 0), some (.ref 9), some (.ref 66), some (.int a3)] (r.toList ++ []) τ b) else False) else False) else False) else False) else False) else False) else False) := rfl
set_option maxRecDepth 100000 in
theorem bm_10 {C : xC} {Q : xQ} {K : xK} {σ : xH} {b : Nat × Nat} {a3 : Int32} {s0 : Int32} : xrun k_L_law 2 C Q [] K 17 614 [some (.ref 0), some (.ref 9), some (.ref 66), some (.int a3)] [.int s0] σ b = (bif xisi σ 0 then (if xin (a3 + 1) (xlen σ.2.2.2.2 0) then (bif xisi σ 0 then (if xin (a3 + 2) (xlen σ.2.2.2.2 0) then (bif xisi σ 0 then (if xin (a3 + 3) (xlen σ.2.2.2.2 0) then (bif xis σ 66 9 then C 212 [.ref 66, .int (σ.1 0 (Int32.toNatClampNeg (a3 + 1))), .int (σ.1 0 (Int32.toNatClampNeg (a3 + 2))), .int (σ.1 0 (Int32.toNatClampNeg (a3 + 3)))] σ (fun r τ => K 633 [some (.ref 0), some (.ref 9), some (.ref 66), some (.int a3)] (r.toList ++ [.int s0]) τ b) else False) else False) else False) else False) else False) else False) else False) := rfl
theorem be_10 {C : xC} {Q : xQ} {K : xK} {σ : xH} {b : Nat × Nat} {a3 : Int32} {s0 s1 : Int32} : xrun k_L_law 2 C Q [] K 1 633 [some (.ref 0), some (.ref 9), some (.ref 66), some (.int a3)] [.int s1, .int s0] σ b = (if s0 = s1 then K 1427 [some (.ref 0), some (.ref 9), some (.ref 66), some (.int a3)] [] σ b else K 636 [some (.ref 0), some (.ref 9), some (.ref 66), some (.int a3)] [] σ b) := rfl
theorem lc_10 {d N i : Nat} {F : xQ} {σ : xH} {b : Nat × Nat} {P : xH → Prop} (hd : 30 ≤ d) (hN : N ≤ 3072) (hs : lwS N σ) (hi : i + 6 ≤ N) (h : xCd 30 143 (.ref 9 :: [.int (σ.1 0 (i + 1)), .int (σ.1 0 (i + 2)), .int (σ.1 0 (i + 3))]) σ (fun r τ => xCd 30 212 (.ref 66 :: [.int (σ.1 0 (i + 1)), .int (σ.1 0 (i + 2)), .int (σ.1 0 (i + 3))]) τ (fun r' τ' => r' = r ∧ P τ'))) (k : ∀ τ, P τ → lwS N τ → xEX k_L_law 2 (xCd d) F 1427 [some (.ref 0), some (.ref 9), some (.ref 66), some (.int (Int32.ofNat i))] [] τ b) : xEX k_L_law 2 (xCd d) F 595 [some (.ref 0), some (.ref 9), some (.ref 66), some (.int (Int32.ofNat i))] [] σ b := by
  have hi2 : i ≤ 3072 := by omega
  have e1 : Int32.toNatClampNeg (Int32.ofNat i + 1) = i + 1 := lw_c (j := 1) hi2 (by decide)
  have e2 : Int32.toNatClampNeg (Int32.ofNat i + 2) = i + 2 := lw_c (j := 2) hi2 (by decide)
  have e3 : Int32.toNatClampNeg (Int32.ofNat i + 3) = i + 3 := lw_c (j := 3) hi2 (by decide)
  refine xgo bx_10 (xbifT (lw_0 hs) (xitT (lw_in (j := 1) hs hN hi (by decide)) (xbifT (lw_0 hs) (xitT (lw_in (j := 2) hs hN hi (by decide)) (xbifT (lw_0 hs) (xitT (lw_in (j := 3) hs hN hi (by decide)) (xbifT (lw_9 hs) ?_)))))))
  simp only [e1, e2, e3]
  refine xuse (xCd_fr (σ0 := σ) 30 _ _ _ _ (lw_sm hs) h) hd ?_
  rintro r τ ⟨q, hsm, hrt⟩
  obtain ⟨v, rfl⟩ := hrt.1 (Or.inl rfl)
  have ht := sm_lw hs hsm
  refine xgo bm_10 (xbifT (lw_0 ht) (xitT (lw_in (j := 1) ht hN hi (by decide)) (xbifT (lw_0 ht) (xitT (lw_in (j := 2) ht hN hi (by decide)) (xbifT (lw_0 ht) (xitT (lw_in (j := 3) ht hN hi (by decide)) (xbifT (lw_66 ht) ?_)))))))
  simp only [e1, e2, e3, hsm.1]
  refine xuse (xCd_fr (σ0 := τ) 30 _ _ _ _ (lw_sm ht) q) hd ?_
  rintro r' τ' ⟨⟨rfl, hP⟩, hsm2, _⟩
  refine xgo be_10 ?_
  rw [if_pos rfl]
  exact k τ' hP (sm_lw ht hsm2)
set_option maxRecDepth 100000 in
theorem bx_11 {C : xC} {Q : xQ} {K : xK} {σ : xH} {b : Nat × Nat} {a3 : Int32} : xrun k_L_law 2 C Q [] K 17 638 [some (.ref 0), some (.ref 9), some (.ref 66), some (.int a3)] [] σ b = (bif xisi σ 0 then (if xin (a3 + 1) (xlen σ.2.2.2.2 0) then (bif xisi σ 0 then (if xin (a3 + 2) (xlen σ.2.2.2.2 0) then (bif xisi σ 0 then (if xin (a3 + 3) (xlen σ.2.2.2.2 0) then (bif xis σ 9 8 then C 144 [.ref 9, .int (σ.1 0 (Int32.toNatClampNeg (a3 + 1))), .int (σ.1 0 (Int32.toNatClampNeg (a3 + 2))), .int (σ.1 0 (Int32.toNatClampNeg (a3 + 3)))] σ (fun r τ => K 657 [some (.ref 0), some (.ref 9), some (.ref 66), some (.int a3)] (r.toList ++ []) τ b) else False) else False) else False) else False) else False) else False) else False) := rfl
set_option maxRecDepth 100000 in
theorem bm_11 {C : xC} {Q : xQ} {K : xK} {σ : xH} {b : Nat × Nat} {a3 : Int32} {s0 : Int32} : xrun k_L_law 2 C Q [] K 17 657 [some (.ref 0), some (.ref 9), some (.ref 66), some (.int a3)] [.int s0] σ b = (bif xisi σ 0 then (if xin (a3 + 1) (xlen σ.2.2.2.2 0) then (bif xisi σ 0 then (if xin (a3 + 2) (xlen σ.2.2.2.2 0) then (bif xisi σ 0 then (if xin (a3 + 3) (xlen σ.2.2.2.2 0) then (bif xis σ 66 9 then C 213 [.ref 66, .int (σ.1 0 (Int32.toNatClampNeg (a3 + 1))), .int (σ.1 0 (Int32.toNatClampNeg (a3 + 2))), .int (σ.1 0 (Int32.toNatClampNeg (a3 + 3)))] σ (fun r τ => K 676 [some (.ref 0), some (.ref 9), some (.ref 66), some (.int a3)] (r.toList ++ [.int s0]) τ b) else False) else False) else False) else False) else False) else False) else False) := rfl
theorem be_11 {C : xC} {Q : xQ} {K : xK} {σ : xH} {b : Nat × Nat} {a3 : Int32} {s0 s1 : Int32} : xrun k_L_law 2 C Q [] K 1 676 [some (.ref 0), some (.ref 9), some (.ref 66), some (.int a3)] [.int s1, .int s0] σ b = (if s0 = s1 then K 1427 [some (.ref 0), some (.ref 9), some (.ref 66), some (.int a3)] [] σ b else K 679 [some (.ref 0), some (.ref 9), some (.ref 66), some (.int a3)] [] σ b) := rfl
theorem lc_11 {d N i : Nat} {F : xQ} {σ : xH} {b : Nat × Nat} {P : xH → Prop} (hd : 30 ≤ d) (hN : N ≤ 3072) (hs : lwS N σ) (hi : i + 6 ≤ N) (h : xCd 30 144 (.ref 9 :: [.int (σ.1 0 (i + 1)), .int (σ.1 0 (i + 2)), .int (σ.1 0 (i + 3))]) σ (fun r τ => xCd 30 213 (.ref 66 :: [.int (σ.1 0 (i + 1)), .int (σ.1 0 (i + 2)), .int (σ.1 0 (i + 3))]) τ (fun r' τ' => r' = r ∧ P τ'))) (k : ∀ τ, P τ → lwS N τ → xEX k_L_law 2 (xCd d) F 1427 [some (.ref 0), some (.ref 9), some (.ref 66), some (.int (Int32.ofNat i))] [] τ b) : xEX k_L_law 2 (xCd d) F 638 [some (.ref 0), some (.ref 9), some (.ref 66), some (.int (Int32.ofNat i))] [] σ b := by
  have hi2 : i ≤ 3072 := by omega
  have e1 : Int32.toNatClampNeg (Int32.ofNat i + 1) = i + 1 := lw_c (j := 1) hi2 (by decide)
  have e2 : Int32.toNatClampNeg (Int32.ofNat i + 2) = i + 2 := lw_c (j := 2) hi2 (by decide)
  have e3 : Int32.toNatClampNeg (Int32.ofNat i + 3) = i + 3 := lw_c (j := 3) hi2 (by decide)
  refine xgo bx_11 (xbifT (lw_0 hs) (xitT (lw_in (j := 1) hs hN hi (by decide)) (xbifT (lw_0 hs) (xitT (lw_in (j := 2) hs hN hi (by decide)) (xbifT (lw_0 hs) (xitT (lw_in (j := 3) hs hN hi (by decide)) (xbifT (lw_9 hs) ?_)))))))
  simp only [e1, e2, e3]
  refine xuse (xCd_fr (σ0 := σ) 30 _ _ _ _ (lw_sm hs) h) hd ?_
  rintro r τ ⟨q, hsm, hrt⟩
  obtain ⟨v, rfl⟩ := hrt.1 (Or.inl rfl)
  have ht := sm_lw hs hsm
  refine xgo bm_11 (xbifT (lw_0 ht) (xitT (lw_in (j := 1) ht hN hi (by decide)) (xbifT (lw_0 ht) (xitT (lw_in (j := 2) ht hN hi (by decide)) (xbifT (lw_0 ht) (xitT (lw_in (j := 3) ht hN hi (by decide)) (xbifT (lw_66 ht) ?_)))))))
  simp only [e1, e2, e3, hsm.1]
  refine xuse (xCd_fr (σ0 := τ) 30 _ _ _ _ (lw_sm ht) q) hd ?_
  rintro r' τ' ⟨⟨rfl, hP⟩, hsm2, _⟩
  refine xgo be_11 ?_
  rw [if_pos rfl]
  exact k τ' hP (sm_lw ht hsm2)
set_option maxRecDepth 100000 in
theorem bx_12 {C : xC} {Q : xQ} {K : xK} {σ : xH} {b : Nat × Nat} {a3 : Int32} : xrun k_L_law 2 C Q [] K 12 681 [some (.ref 0), some (.ref 9), some (.ref 66), some (.int a3)] [] σ b = (bif xisi σ 0 then (if xin (a3 + 1) (xlen σ.2.2.2.2 0) then (bif xisi σ 0 then (if xin (a3 + 2) (xlen σ.2.2.2.2 0) then (bif xis σ 9 8 then C 145 [.ref 9, .int (σ.1 0 (Int32.toNatClampNeg (a3 + 1))), .int (σ.1 0 (Int32.toNatClampNeg (a3 + 2)))] σ (fun r τ => K 695 [some (.ref 0), some (.ref 9), some (.ref 66), some (.int a3)] (r.toList ++ []) τ b) else False) else False) else False) else False) else False) := rfl
set_option maxRecDepth 100000 in
theorem bm_12 {C : xC} {Q : xQ} {K : xK} {σ : xH} {b : Nat × Nat} {a3 : Int32} {s0 : Int32} : xrun k_L_law 2 C Q [] K 12 695 [some (.ref 0), some (.ref 9), some (.ref 66), some (.int a3)] [.int s0] σ b = (bif xisi σ 0 then (if xin (a3 + 1) (xlen σ.2.2.2.2 0) then (bif xisi σ 0 then (if xin (a3 + 2) (xlen σ.2.2.2.2 0) then (bif xis σ 66 9 then C 215 [.ref 66, .int (σ.1 0 (Int32.toNatClampNeg (a3 + 1))), .int (σ.1 0 (Int32.toNatClampNeg (a3 + 2)))] σ (fun r τ => K 709 [some (.ref 0), some (.ref 9), some (.ref 66), some (.int a3)] (r.toList ++ [.int s0]) τ b) else False) else False) else False) else False) else False) := rfl
theorem be_12 {C : xC} {Q : xQ} {K : xK} {σ : xH} {b : Nat × Nat} {a3 : Int32} {s0 s1 : Int32} : xrun k_L_law 2 C Q [] K 1 709 [some (.ref 0), some (.ref 9), some (.ref 66), some (.int a3)] [.int s1, .int s0] σ b = (if s0 = s1 then K 1427 [some (.ref 0), some (.ref 9), some (.ref 66), some (.int a3)] [] σ b else K 712 [some (.ref 0), some (.ref 9), some (.ref 66), some (.int a3)] [] σ b) := rfl
theorem lc_12 {d N i : Nat} {F : xQ} {σ : xH} {b : Nat × Nat} {P : xH → Prop} (hd : 30 ≤ d) (hN : N ≤ 3072) (hs : lwS N σ) (hi : i + 6 ≤ N) (h : xCd 30 145 (.ref 9 :: [.int (σ.1 0 (i + 1)), .int (σ.1 0 (i + 2))]) σ (fun r τ => xCd 30 215 (.ref 66 :: [.int (σ.1 0 (i + 1)), .int (σ.1 0 (i + 2))]) τ (fun r' τ' => r' = r ∧ P τ'))) (k : ∀ τ, P τ → lwS N τ → xEX k_L_law 2 (xCd d) F 1427 [some (.ref 0), some (.ref 9), some (.ref 66), some (.int (Int32.ofNat i))] [] τ b) : xEX k_L_law 2 (xCd d) F 681 [some (.ref 0), some (.ref 9), some (.ref 66), some (.int (Int32.ofNat i))] [] σ b := by
  have hi2 : i ≤ 3072 := by omega
  have e1 : Int32.toNatClampNeg (Int32.ofNat i + 1) = i + 1 := lw_c (j := 1) hi2 (by decide)
  have e2 : Int32.toNatClampNeg (Int32.ofNat i + 2) = i + 2 := lw_c (j := 2) hi2 (by decide)
  refine xgo bx_12 (xbifT (lw_0 hs) (xitT (lw_in (j := 1) hs hN hi (by decide)) (xbifT (lw_0 hs) (xitT (lw_in (j := 2) hs hN hi (by decide)) (xbifT (lw_9 hs) ?_)))))
  simp only [e1, e2]
  refine xuse (xCd_fr (σ0 := σ) 30 _ _ _ _ (lw_sm hs) h) hd ?_
  rintro r τ ⟨q, hsm, hrt⟩
  obtain ⟨v, rfl⟩ := hrt.1 (Or.inl rfl)
  have ht := sm_lw hs hsm
  refine xgo bm_12 (xbifT (lw_0 ht) (xitT (lw_in (j := 1) ht hN hi (by decide)) (xbifT (lw_0 ht) (xitT (lw_in (j := 2) ht hN hi (by decide)) (xbifT (lw_66 ht) ?_)))))
  simp only [e1, e2, hsm.1]
  refine xuse (xCd_fr (σ0 := τ) 30 _ _ _ _ (lw_sm ht) q) hd ?_
  rintro r' τ' ⟨⟨rfl, hP⟩, hsm2, _⟩
  refine xgo be_12 ?_
  rw [if_pos rfl]
  exact k τ' hP (sm_lw ht hsm2)
set_option maxRecDepth 100000 in
theorem bx_13 {C : xC} {Q : xQ} {K : xK} {σ : xH} {b : Nat × Nat} {a3 : Int32} : xrun k_L_law 2 C Q [] K 17 714 [some (.ref 0), some (.ref 9), some (.ref 66), some (.int a3)] [] σ b = (bif xisi σ 0 then (if xin (a3 + 1) (xlen σ.2.2.2.2 0) then (bif xisi σ 0 then (if xin (a3 + 2) (xlen σ.2.2.2.2 0) then (bif xisi σ 0 then (if xin (a3 + 3) (xlen σ.2.2.2.2 0) then (bif xis σ 9 8 then C 146 [.ref 9, .int (σ.1 0 (Int32.toNatClampNeg (a3 + 1))), .int (σ.1 0 (Int32.toNatClampNeg (a3 + 2))), .int (σ.1 0 (Int32.toNatClampNeg (a3 + 3)))] σ (fun r τ => K 733 [some (.ref 0), some (.ref 9), some (.ref 66), some (.int a3)] (r.toList ++ []) τ b) else False) else False) else False) else False) else False) else False) else False) := rfl
set_option maxRecDepth 100000 in
theorem bm_13 {C : xC} {Q : xQ} {K : xK} {σ : xH} {b : Nat × Nat} {a3 : Int32} {s0 : Int32} : xrun k_L_law 2 C Q [] K 17 733 [some (.ref 0), some (.ref 9), some (.ref 66), some (.int a3)] [.int s0] σ b = (bif xisi σ 0 then (if xin (a3 + 1) (xlen σ.2.2.2.2 0) then (bif xisi σ 0 then (if xin (a3 + 2) (xlen σ.2.2.2.2 0) then (bif xisi σ 0 then (if xin (a3 + 3) (xlen σ.2.2.2.2 0) then (bif xis σ 66 9 then C 218 [.ref 66, .int (σ.1 0 (Int32.toNatClampNeg (a3 + 1))), .int (σ.1 0 (Int32.toNatClampNeg (a3 + 2))), .int (σ.1 0 (Int32.toNatClampNeg (a3 + 3)))] σ (fun r τ => K 752 [some (.ref 0), some (.ref 9), some (.ref 66), some (.int a3)] (r.toList ++ [.int s0]) τ b) else False) else False) else False) else False) else False) else False) else False) := rfl
theorem be_13 {C : xC} {Q : xQ} {K : xK} {σ : xH} {b : Nat × Nat} {a3 : Int32} {s0 s1 : Int32} : xrun k_L_law 2 C Q [] K 1 752 [some (.ref 0), some (.ref 9), some (.ref 66), some (.int a3)] [.int s1, .int s0] σ b = (if s0 = s1 then K 1427 [some (.ref 0), some (.ref 9), some (.ref 66), some (.int a3)] [] σ b else K 755 [some (.ref 0), some (.ref 9), some (.ref 66), some (.int a3)] [] σ b) := rfl
theorem lc_13 {d N i : Nat} {F : xQ} {σ : xH} {b : Nat × Nat} {P : xH → Prop} (hd : 30 ≤ d) (hN : N ≤ 3072) (hs : lwS N σ) (hi : i + 6 ≤ N) (h : xCd 30 146 (.ref 9 :: [.int (σ.1 0 (i + 1)), .int (σ.1 0 (i + 2)), .int (σ.1 0 (i + 3))]) σ (fun r τ => xCd 30 218 (.ref 66 :: [.int (σ.1 0 (i + 1)), .int (σ.1 0 (i + 2)), .int (σ.1 0 (i + 3))]) τ (fun r' τ' => r' = r ∧ P τ'))) (k : ∀ τ, P τ → lwS N τ → xEX k_L_law 2 (xCd d) F 1427 [some (.ref 0), some (.ref 9), some (.ref 66), some (.int (Int32.ofNat i))] [] τ b) : xEX k_L_law 2 (xCd d) F 714 [some (.ref 0), some (.ref 9), some (.ref 66), some (.int (Int32.ofNat i))] [] σ b := by
  have hi2 : i ≤ 3072 := by omega
  have e1 : Int32.toNatClampNeg (Int32.ofNat i + 1) = i + 1 := lw_c (j := 1) hi2 (by decide)
  have e2 : Int32.toNatClampNeg (Int32.ofNat i + 2) = i + 2 := lw_c (j := 2) hi2 (by decide)
  have e3 : Int32.toNatClampNeg (Int32.ofNat i + 3) = i + 3 := lw_c (j := 3) hi2 (by decide)
  refine xgo bx_13 (xbifT (lw_0 hs) (xitT (lw_in (j := 1) hs hN hi (by decide)) (xbifT (lw_0 hs) (xitT (lw_in (j := 2) hs hN hi (by decide)) (xbifT (lw_0 hs) (xitT (lw_in (j := 3) hs hN hi (by decide)) (xbifT (lw_9 hs) ?_)))))))
  simp only [e1, e2, e3]
  refine xuse (xCd_fr (σ0 := σ) 30 _ _ _ _ (lw_sm hs) h) hd ?_
  rintro r τ ⟨q, hsm, hrt⟩
  obtain ⟨v, rfl⟩ := hrt.1 (Or.inl rfl)
  have ht := sm_lw hs hsm
  refine xgo bm_13 (xbifT (lw_0 ht) (xitT (lw_in (j := 1) ht hN hi (by decide)) (xbifT (lw_0 ht) (xitT (lw_in (j := 2) ht hN hi (by decide)) (xbifT (lw_0 ht) (xitT (lw_in (j := 3) ht hN hi (by decide)) (xbifT (lw_66 ht) ?_)))))))
  simp only [e1, e2, e3, hsm.1]
  refine xuse (xCd_fr (σ0 := τ) 30 _ _ _ _ (lw_sm ht) q) hd ?_
  rintro r' τ' ⟨⟨rfl, hP⟩, hsm2, _⟩
  refine xgo be_13 ?_
  rw [if_pos rfl]
  exact k τ' hP (sm_lw ht hsm2)
set_option maxRecDepth 100000 in
theorem bx_14 {C : xC} {Q : xQ} {K : xK} {σ : xH} {b : Nat × Nat} {a3 : Int32} : xrun k_L_law 2 C Q [] K 2 757 [some (.ref 0), some (.ref 9), some (.ref 66), some (.int a3)] [] σ b = (bif xis σ 9 8 then C 147 [.ref 9] σ (fun r τ => K 761 [some (.ref 0), some (.ref 9), some (.ref 66), some (.int a3)] (r.toList ++ []) τ b) else False) := rfl
set_option maxRecDepth 100000 in
theorem bm_14 {C : xC} {Q : xQ} {K : xK} {σ : xH} {b : Nat × Nat} {a3 : Int32} {s0 : Int32} : xrun k_L_law 2 C Q [] K 2 761 [some (.ref 0), some (.ref 9), some (.ref 66), some (.int a3)] [.int s0] σ b = (bif xis σ 66 9 then C 219 [.ref 66] σ (fun r τ => K 765 [some (.ref 0), some (.ref 9), some (.ref 66), some (.int a3)] (r.toList ++ [.int s0]) τ b) else False) := rfl
theorem be_14 {C : xC} {Q : xQ} {K : xK} {σ : xH} {b : Nat × Nat} {a3 : Int32} {s0 s1 : Int32} : xrun k_L_law 2 C Q [] K 1 765 [some (.ref 0), some (.ref 9), some (.ref 66), some (.int a3)] [.int s1, .int s0] σ b = (if s0 = s1 then K 1427 [some (.ref 0), some (.ref 9), some (.ref 66), some (.int a3)] [] σ b else K 768 [some (.ref 0), some (.ref 9), some (.ref 66), some (.int a3)] [] σ b) := rfl
theorem lc_14 {d N i : Nat} {F : xQ} {σ : xH} {b : Nat × Nat} {P : xH → Prop} (hd : 30 ≤ d) (hN : N ≤ 3072) (hs : lwS N σ) (hi : i + 6 ≤ N) (h : xCd 30 147 (.ref 9 :: []) σ (fun r τ => xCd 30 219 (.ref 66 :: []) τ (fun r' τ' => r' = r ∧ P τ'))) (k : ∀ τ, P τ → lwS N τ → xEX k_L_law 2 (xCd d) F 1427 [some (.ref 0), some (.ref 9), some (.ref 66), some (.int (Int32.ofNat i))] [] τ b) : xEX k_L_law 2 (xCd d) F 757 [some (.ref 0), some (.ref 9), some (.ref 66), some (.int (Int32.ofNat i))] [] σ b := by
  have hi2 : i ≤ 3072 := by omega
  refine xgo bx_14 (xbifT (lw_9 hs) ?_)
  refine xuse (xCd_fr (σ0 := σ) 30 _ _ _ _ (lw_sm hs) h) hd ?_
  rintro r τ ⟨q, hsm, hrt⟩
  obtain ⟨v, rfl⟩ := hrt.1 (Or.inl rfl)
  have ht := sm_lw hs hsm
  refine xgo bm_14 (xbifT (lw_66 ht) ?_)
  refine xuse (xCd_fr (σ0 := τ) 30 _ _ _ _ (lw_sm ht) q) hd ?_
  rintro r' τ' ⟨⟨rfl, hP⟩, hsm2, _⟩
  refine xgo be_14 ?_
  rw [if_pos rfl]
  exact k τ' hP (sm_lw ht hsm2)
set_option maxRecDepth 100000 in
theorem bx_15 {C : xC} {Q : xQ} {K : xK} {σ : xH} {b : Nat × Nat} {a3 : Int32} : xrun k_L_law 2 C Q [] K 7 770 [some (.ref 0), some (.ref 9), some (.ref 66), some (.int a3)] [] σ b = (bif xisi σ 0 then (if xin (a3 + 1) (xlen σ.2.2.2.2 0) then (bif xis σ 9 8 then C 148 [.ref 9, .int (σ.1 0 (Int32.toNatClampNeg (a3 + 1)))] σ (fun r τ => K 779 [some (.ref 0), some (.ref 9), some (.ref 66), some (.int a3)] (r.toList ++ []) τ b) else False) else False) else False) := rfl
set_option maxRecDepth 100000 in
theorem bm_15 {C : xC} {Q : xQ} {K : xK} {σ : xH} {b : Nat × Nat} {a3 : Int32} {s0 : Int32} : xrun k_L_law 2 C Q [] K 7 779 [some (.ref 0), some (.ref 9), some (.ref 66), some (.int a3)] [.int s0] σ b = (bif xisi σ 0 then (if xin (a3 + 1) (xlen σ.2.2.2.2 0) then (bif xis σ 66 9 then C 220 [.ref 66, .int (σ.1 0 (Int32.toNatClampNeg (a3 + 1)))] σ (fun r τ => K 788 [some (.ref 0), some (.ref 9), some (.ref 66), some (.int a3)] (r.toList ++ [.int s0]) τ b) else False) else False) else False) := rfl
theorem be_15 {C : xC} {Q : xQ} {K : xK} {σ : xH} {b : Nat × Nat} {a3 : Int32} {s0 s1 : Int32} : xrun k_L_law 2 C Q [] K 1 788 [some (.ref 0), some (.ref 9), some (.ref 66), some (.int a3)] [.int s1, .int s0] σ b = (if s0 = s1 then K 1427 [some (.ref 0), some (.ref 9), some (.ref 66), some (.int a3)] [] σ b else K 791 [some (.ref 0), some (.ref 9), some (.ref 66), some (.int a3)] [] σ b) := rfl
theorem lc_15 {d N i : Nat} {F : xQ} {σ : xH} {b : Nat × Nat} {P : xH → Prop} (hd : 30 ≤ d) (hN : N ≤ 3072) (hs : lwS N σ) (hi : i + 6 ≤ N) (h : xCd 30 148 (.ref 9 :: [.int (σ.1 0 (i + 1))]) σ (fun r τ => xCd 30 220 (.ref 66 :: [.int (σ.1 0 (i + 1))]) τ (fun r' τ' => r' = r ∧ P τ'))) (k : ∀ τ, P τ → lwS N τ → xEX k_L_law 2 (xCd d) F 1427 [some (.ref 0), some (.ref 9), some (.ref 66), some (.int (Int32.ofNat i))] [] τ b) : xEX k_L_law 2 (xCd d) F 770 [some (.ref 0), some (.ref 9), some (.ref 66), some (.int (Int32.ofNat i))] [] σ b := by
  have hi2 : i ≤ 3072 := by omega
  have e1 : Int32.toNatClampNeg (Int32.ofNat i + 1) = i + 1 := lw_c (j := 1) hi2 (by decide)
  refine xgo bx_15 (xbifT (lw_0 hs) (xitT (lw_in (j := 1) hs hN hi (by decide)) (xbifT (lw_9 hs) ?_)))
  simp only [e1]
  refine xuse (xCd_fr (σ0 := σ) 30 _ _ _ _ (lw_sm hs) h) hd ?_
  rintro r τ ⟨q, hsm, hrt⟩
  obtain ⟨v, rfl⟩ := hrt.1 (Or.inl rfl)
  have ht := sm_lw hs hsm
  refine xgo bm_15 (xbifT (lw_0 ht) (xitT (lw_in (j := 1) ht hN hi (by decide)) (xbifT (lw_66 ht) ?_)))
  simp only [e1, hsm.1]
  refine xuse (xCd_fr (σ0 := τ) 30 _ _ _ _ (lw_sm ht) q) hd ?_
  rintro r' τ' ⟨⟨rfl, hP⟩, hsm2, _⟩
  refine xgo be_15 ?_
  rw [if_pos rfl]
  exact k τ' hP (sm_lw ht hsm2)
set_option maxRecDepth 100000 in
theorem bx_16 {C : xC} {Q : xQ} {K : xK} {σ : xH} {b : Nat × Nat} {a3 : Int32} : xrun k_L_law 2 C Q [] K 2 793 [some (.ref 0), some (.ref 9), some (.ref 66), some (.int a3)] [] σ b = (bif xis σ 9 8 then C 149 [.ref 9] σ (fun r τ => K 797 [some (.ref 0), some (.ref 9), some (.ref 66), some (.int a3)] (r.toList ++ []) τ b) else False) := rfl
set_option maxRecDepth 100000 in
theorem bm_16 {C : xC} {Q : xQ} {K : xK} {σ : xH} {b : Nat × Nat} {a3 : Int32} {s0 : Int32} : xrun k_L_law 2 C Q [] K 2 797 [some (.ref 0), some (.ref 9), some (.ref 66), some (.int a3)] [.int s0] σ b = (bif xis σ 66 9 then C 221 [.ref 66] σ (fun r τ => K 801 [some (.ref 0), some (.ref 9), some (.ref 66), some (.int a3)] (r.toList ++ [.int s0]) τ b) else False) := rfl
theorem be_16 {C : xC} {Q : xQ} {K : xK} {σ : xH} {b : Nat × Nat} {a3 : Int32} {s0 s1 : Int32} : xrun k_L_law 2 C Q [] K 1 801 [some (.ref 0), some (.ref 9), some (.ref 66), some (.int a3)] [.int s1, .int s0] σ b = (if s0 = s1 then K 1427 [some (.ref 0), some (.ref 9), some (.ref 66), some (.int a3)] [] σ b else K 804 [some (.ref 0), some (.ref 9), some (.ref 66), some (.int a3)] [] σ b) := rfl
theorem lc_16 {d N i : Nat} {F : xQ} {σ : xH} {b : Nat × Nat} {P : xH → Prop} (hd : 30 ≤ d) (hN : N ≤ 3072) (hs : lwS N σ) (hi : i + 6 ≤ N) (h : xCd 30 149 (.ref 9 :: []) σ (fun r τ => xCd 30 221 (.ref 66 :: []) τ (fun r' τ' => r' = r ∧ P τ'))) (k : ∀ τ, P τ → lwS N τ → xEX k_L_law 2 (xCd d) F 1427 [some (.ref 0), some (.ref 9), some (.ref 66), some (.int (Int32.ofNat i))] [] τ b) : xEX k_L_law 2 (xCd d) F 793 [some (.ref 0), some (.ref 9), some (.ref 66), some (.int (Int32.ofNat i))] [] σ b := by
  have hi2 : i ≤ 3072 := by omega
  refine xgo bx_16 (xbifT (lw_9 hs) ?_)
  refine xuse (xCd_fr (σ0 := σ) 30 _ _ _ _ (lw_sm hs) h) hd ?_
  rintro r τ ⟨q, hsm, hrt⟩
  obtain ⟨v, rfl⟩ := hrt.1 (Or.inl rfl)
  have ht := sm_lw hs hsm
  refine xgo bm_16 (xbifT (lw_66 ht) ?_)
  refine xuse (xCd_fr (σ0 := τ) 30 _ _ _ _ (lw_sm ht) q) hd ?_
  rintro r' τ' ⟨⟨rfl, hP⟩, hsm2, _⟩
  refine xgo be_16 ?_
  rw [if_pos rfl]
  exact k τ' hP (sm_lw ht hsm2)
set_option maxRecDepth 100000 in
theorem bx_17 {C : xC} {Q : xQ} {K : xK} {σ : xH} {b : Nat × Nat} {a3 : Int32} : xrun k_L_law 2 C Q [] K 2 806 [some (.ref 0), some (.ref 9), some (.ref 66), some (.int a3)] [] σ b = (bif xis σ 9 8 then C 150 [.ref 9] σ (fun r τ => K 810 [some (.ref 0), some (.ref 9), some (.ref 66), some (.int a3)] (r.toList ++ []) τ b) else False) := rfl
set_option maxRecDepth 100000 in
theorem bm_17 {C : xC} {Q : xQ} {K : xK} {σ : xH} {b : Nat × Nat} {a3 : Int32} {s0 : Int32} : xrun k_L_law 2 C Q [] K 2 810 [some (.ref 0), some (.ref 9), some (.ref 66), some (.int a3)] [.int s0] σ b = (bif xis σ 66 9 then (bif Nat.ble 46 b.1 && Nat.ble 5872 b.2 then C 234 [.ref 66] σ (fun r τ => K 814 [some (.ref 0), some (.ref 9), some (.ref 66), some (.int a3)] (r.toList ++ [.int s0]) τ (b.1 - 46, b.2 - 5872)) else False) else False) := rfl
theorem be_17 {C : xC} {Q : xQ} {K : xK} {σ : xH} {b : Nat × Nat} {a3 : Int32} {s0 s1 : Int32} : xrun k_L_law 2 C Q [] K 1 814 [some (.ref 0), some (.ref 9), some (.ref 66), some (.int a3)] [.int s1, .int s0] σ b = (if s0 = s1 then K 1427 [some (.ref 0), some (.ref 9), some (.ref 66), some (.int a3)] [] σ b else K 817 [some (.ref 0), some (.ref 9), some (.ref 66), some (.int a3)] [] σ b) := rfl
theorem lc_17 {d N i : Nat} {F : xQ} {σ : xH} {b : Nat × Nat} {P : xH → Prop} (hd : 30 ≤ d) (hN : N ≤ 3072) (hs : lwS N σ) (hi : i + 6 ≤ N) (hb : 46 ≤ b.1 ∧ 5872 ≤ b.2) (h : xCd 30 150 (.ref 9 :: []) σ (fun r τ => xCd 30 234 (.ref 66 :: []) τ (fun r' τ' => r' = r ∧ P τ'))) (k : ∀ τ, P τ → lwS N τ → xEX k_L_law 2 (xCd d) F 1427 [some (.ref 0), some (.ref 9), some (.ref 66), some (.int (Int32.ofNat i))] [] τ (b.1 - 46, b.2 - 5872)) : xEX k_L_law 2 (xCd d) F 806 [some (.ref 0), some (.ref 9), some (.ref 66), some (.int (Int32.ofNat i))] [] σ b := by
  have hi2 : i ≤ 3072 := by omega
  refine xgo bx_17 (xbifT (lw_9 hs) ?_)
  refine xuse (xCd_fr (σ0 := σ) 30 _ _ _ _ (lw_sm hs) h) hd ?_
  rintro r τ ⟨q, hsm, hrt⟩
  obtain ⟨v, rfl⟩ := hrt.1 (Or.inl rfl)
  have ht := sm_lw hs hsm
  refine xgo bm_17 (xbifT (lw_66 ht) ?_)
  refine xbifT (show (Nat.ble 46 b.1 && Nat.ble 5872 b.2) = true from (Bool.and_eq_true _ _).mpr ⟨Nat.ble_eq_true_of_le hb.1, Nat.ble_eq_true_of_le hb.2⟩) ?_
  refine xuse (xCd_fr (σ0 := τ) 30 _ _ _ _ (lw_sm ht) q) hd ?_
  rintro r' τ' ⟨⟨rfl, hP⟩, hsm2, _⟩
  refine xgo be_17 ?_
  rw [if_pos rfl]
  exact k τ' hP (sm_lw ht hsm2)
set_option maxRecDepth 100000 in
theorem bx_18 {C : xC} {Q : xQ} {K : xK} {σ : xH} {b : Nat × Nat} {a3 : Int32} : xrun k_L_law 2 C Q [] K 7 819 [some (.ref 0), some (.ref 9), some (.ref 66), some (.int a3)] [] σ b = (bif xisi σ 0 then (if xin (a3 + 1) (xlen σ.2.2.2.2 0) then (bif xis σ 9 8 then C 151 [.ref 9, .int (σ.1 0 (Int32.toNatClampNeg (a3 + 1)))] σ (fun r τ => K 828 [some (.ref 0), some (.ref 9), some (.ref 66), some (.int a3)] (r.toList ++ []) τ b) else False) else False) else False) := rfl
set_option maxRecDepth 100000 in
theorem bm_18 {C : xC} {Q : xQ} {K : xK} {σ : xH} {b : Nat × Nat} {a3 : Int32} {s0 : Int32} : xrun k_L_law 2 C Q [] K 7 828 [some (.ref 0), some (.ref 9), some (.ref 66), some (.int a3)] [.int s0] σ b = (bif xisi σ 0 then (if xin (a3 + 1) (xlen σ.2.2.2.2 0) then (bif xis σ 66 9 then C 245 [.ref 66, .int (σ.1 0 (Int32.toNatClampNeg (a3 + 1)))] σ (fun r τ => K 837 [some (.ref 0), some (.ref 9), some (.ref 66), some (.int a3)] (r.toList ++ [.int s0]) τ b) else False) else False) else False) := rfl
theorem be_18 {C : xC} {Q : xQ} {K : xK} {σ : xH} {b : Nat × Nat} {a3 : Int32} {s0 s1 : Int32} : xrun k_L_law 2 C Q [] K 1 837 [some (.ref 0), some (.ref 9), some (.ref 66), some (.int a3)] [.int s1, .int s0] σ b = (if s0 = s1 then K 1427 [some (.ref 0), some (.ref 9), some (.ref 66), some (.int a3)] [] σ b else K 840 [some (.ref 0), some (.ref 9), some (.ref 66), some (.int a3)] [] σ b) := rfl
theorem lc_18 {d N i : Nat} {F : xQ} {σ : xH} {b : Nat × Nat} {P : xH → Prop} (hd : 30 ≤ d) (hN : N ≤ 3072) (hs : lwS N σ) (hi : i + 6 ≤ N) (h : xCd 30 151 (.ref 9 :: [.int (σ.1 0 (i + 1))]) σ (fun r τ => xCd 30 245 (.ref 66 :: [.int (σ.1 0 (i + 1))]) τ (fun r' τ' => r' = r ∧ P τ'))) (k : ∀ τ, P τ → lwS N τ → xEX k_L_law 2 (xCd d) F 1427 [some (.ref 0), some (.ref 9), some (.ref 66), some (.int (Int32.ofNat i))] [] τ b) : xEX k_L_law 2 (xCd d) F 819 [some (.ref 0), some (.ref 9), some (.ref 66), some (.int (Int32.ofNat i))] [] σ b := by
  have hi2 : i ≤ 3072 := by omega
  have e1 : Int32.toNatClampNeg (Int32.ofNat i + 1) = i + 1 := lw_c (j := 1) hi2 (by decide)
  refine xgo bx_18 (xbifT (lw_0 hs) (xitT (lw_in (j := 1) hs hN hi (by decide)) (xbifT (lw_9 hs) ?_)))
  simp only [e1]
  refine xuse (xCd_fr (σ0 := σ) 30 _ _ _ _ (lw_sm hs) h) hd ?_
  rintro r τ ⟨q, hsm, hrt⟩
  obtain ⟨v, rfl⟩ := hrt.1 (Or.inl rfl)
  have ht := sm_lw hs hsm
  refine xgo bm_18 (xbifT (lw_0 ht) (xitT (lw_in (j := 1) ht hN hi (by decide)) (xbifT (lw_66 ht) ?_)))
  simp only [e1, hsm.1]
  refine xuse (xCd_fr (σ0 := τ) 30 _ _ _ _ (lw_sm ht) q) hd ?_
  rintro r' τ' ⟨⟨rfl, hP⟩, hsm2, _⟩
  refine xgo be_18 ?_
  rw [if_pos rfl]
  exact k τ' hP (sm_lw ht hsm2)
set_option maxRecDepth 100000 in
theorem bx_19 {C : xC} {Q : xQ} {K : xK} {σ : xH} {b : Nat × Nat} {a3 : Int32} : xrun k_L_law 2 C Q [] K 12 842 [some (.ref 0), some (.ref 9), some (.ref 66), some (.int a3)] [] σ b = (bif xisi σ 0 then (if xin (a3 + 1) (xlen σ.2.2.2.2 0) then (bif xisi σ 0 then (if xin (a3 + 2) (xlen σ.2.2.2.2 0) then (bif xis σ 9 8 then C 152 [.ref 9, .int (σ.1 0 (Int32.toNatClampNeg (a3 + 1))), .int (σ.1 0 (Int32.toNatClampNeg (a3 + 2)))] σ (fun r τ => K 856 [some (.ref 0), some (.ref 9), some (.ref 66), some (.int a3)] (r.toList ++ []) τ b) else False) else False) else False) else False) else False) := rfl
set_option maxRecDepth 100000 in
theorem bm_19 {C : xC} {Q : xQ} {K : xK} {σ : xH} {b : Nat × Nat} {a3 : Int32} {s0 : Int32} : xrun k_L_law 2 C Q [] K 12 856 [some (.ref 0), some (.ref 9), some (.ref 66), some (.int a3)] [.int s0] σ b = (bif xisi σ 0 then (if xin (a3 + 1) (xlen σ.2.2.2.2 0) then (bif xisi σ 0 then (if xin (a3 + 2) (xlen σ.2.2.2.2 0) then (bif xis σ 66 9 then C 246 [.ref 66, .int (σ.1 0 (Int32.toNatClampNeg (a3 + 1))), .int (σ.1 0 (Int32.toNatClampNeg (a3 + 2)))] σ (fun r τ => K 870 [some (.ref 0), some (.ref 9), some (.ref 66), some (.int a3)] (r.toList ++ [.int s0]) τ b) else False) else False) else False) else False) else False) := rfl
theorem be_19 {C : xC} {Q : xQ} {K : xK} {σ : xH} {b : Nat × Nat} {a3 : Int32} {s0 s1 : Int32} : xrun k_L_law 2 C Q [] K 1 870 [some (.ref 0), some (.ref 9), some (.ref 66), some (.int a3)] [.int s1, .int s0] σ b = (if s0 = s1 then K 1427 [some (.ref 0), some (.ref 9), some (.ref 66), some (.int a3)] [] σ b else K 873 [some (.ref 0), some (.ref 9), some (.ref 66), some (.int a3)] [] σ b) := rfl
theorem lc_19 {d N i : Nat} {F : xQ} {σ : xH} {b : Nat × Nat} {P : xH → Prop} (hd : 30 ≤ d) (hN : N ≤ 3072) (hs : lwS N σ) (hi : i + 6 ≤ N) (h : xCd 30 152 (.ref 9 :: [.int (σ.1 0 (i + 1)), .int (σ.1 0 (i + 2))]) σ (fun r τ => xCd 30 246 (.ref 66 :: [.int (σ.1 0 (i + 1)), .int (σ.1 0 (i + 2))]) τ (fun r' τ' => r' = r ∧ P τ'))) (k : ∀ τ, P τ → lwS N τ → xEX k_L_law 2 (xCd d) F 1427 [some (.ref 0), some (.ref 9), some (.ref 66), some (.int (Int32.ofNat i))] [] τ b) : xEX k_L_law 2 (xCd d) F 842 [some (.ref 0), some (.ref 9), some (.ref 66), some (.int (Int32.ofNat i))] [] σ b := by
  have hi2 : i ≤ 3072 := by omega
  have e1 : Int32.toNatClampNeg (Int32.ofNat i + 1) = i + 1 := lw_c (j := 1) hi2 (by decide)
  have e2 : Int32.toNatClampNeg (Int32.ofNat i + 2) = i + 2 := lw_c (j := 2) hi2 (by decide)
  refine xgo bx_19 (xbifT (lw_0 hs) (xitT (lw_in (j := 1) hs hN hi (by decide)) (xbifT (lw_0 hs) (xitT (lw_in (j := 2) hs hN hi (by decide)) (xbifT (lw_9 hs) ?_)))))
  simp only [e1, e2]
  refine xuse (xCd_fr (σ0 := σ) 30 _ _ _ _ (lw_sm hs) h) hd ?_
  rintro r τ ⟨q, hsm, hrt⟩
  obtain ⟨v, rfl⟩ := hrt.1 (Or.inl rfl)
  have ht := sm_lw hs hsm
  refine xgo bm_19 (xbifT (lw_0 ht) (xitT (lw_in (j := 1) ht hN hi (by decide)) (xbifT (lw_0 ht) (xitT (lw_in (j := 2) ht hN hi (by decide)) (xbifT (lw_66 ht) ?_)))))
  simp only [e1, e2, hsm.1]
  refine xuse (xCd_fr (σ0 := τ) 30 _ _ _ _ (lw_sm ht) q) hd ?_
  rintro r' τ' ⟨⟨rfl, hP⟩, hsm2, _⟩
  refine xgo be_19 ?_
  rw [if_pos rfl]
  exact k τ' hP (sm_lw ht hsm2)
set_option maxRecDepth 100000 in
theorem bx_20 {C : xC} {Q : xQ} {K : xK} {σ : xH} {b : Nat × Nat} {a3 : Int32} : xrun k_L_law 2 C Q [] K 7 875 [some (.ref 0), some (.ref 9), some (.ref 66), some (.int a3)] [] σ b = (bif xisi σ 0 then (if xin (a3 + 1) (xlen σ.2.2.2.2 0) then (bif xis σ 9 8 then C 153 [.ref 9, .int (σ.1 0 (Int32.toNatClampNeg (a3 + 1)))] σ (fun r τ => K 884 [some (.ref 0), some (.ref 9), some (.ref 66), some (.int a3)] (r.toList ++ []) τ b) else False) else False) else False) := rfl
set_option maxRecDepth 100000 in
theorem bm_20 {C : xC} {Q : xQ} {K : xK} {σ : xH} {b : Nat × Nat} {a3 : Int32} {s0 : Int32} : xrun k_L_law 2 C Q [] K 7 884 [some (.ref 0), some (.ref 9), some (.ref 66), some (.int a3)] [.int s0] σ b = (bif xisi σ 0 then (if xin (a3 + 1) (xlen σ.2.2.2.2 0) then (bif xis σ 66 9 then C 248 [.ref 66, .int (σ.1 0 (Int32.toNatClampNeg (a3 + 1)))] σ (fun r τ => K 893 [some (.ref 0), some (.ref 9), some (.ref 66), some (.int a3)] (r.toList ++ [.int s0]) τ b) else False) else False) else False) := rfl
theorem be_20 {C : xC} {Q : xQ} {K : xK} {σ : xH} {b : Nat × Nat} {a3 : Int32} {s0 s1 : Int32} : xrun k_L_law 2 C Q [] K 1 893 [some (.ref 0), some (.ref 9), some (.ref 66), some (.int a3)] [.int s1, .int s0] σ b = (if s0 = s1 then K 1427 [some (.ref 0), some (.ref 9), some (.ref 66), some (.int a3)] [] σ b else K 896 [some (.ref 0), some (.ref 9), some (.ref 66), some (.int a3)] [] σ b) := rfl
theorem lc_20 {d N i : Nat} {F : xQ} {σ : xH} {b : Nat × Nat} {P : xH → Prop} (hd : 30 ≤ d) (hN : N ≤ 3072) (hs : lwS N σ) (hi : i + 6 ≤ N) (h : xCd 30 153 (.ref 9 :: [.int (σ.1 0 (i + 1))]) σ (fun r τ => xCd 30 248 (.ref 66 :: [.int (σ.1 0 (i + 1))]) τ (fun r' τ' => r' = r ∧ P τ'))) (k : ∀ τ, P τ → lwS N τ → xEX k_L_law 2 (xCd d) F 1427 [some (.ref 0), some (.ref 9), some (.ref 66), some (.int (Int32.ofNat i))] [] τ b) : xEX k_L_law 2 (xCd d) F 875 [some (.ref 0), some (.ref 9), some (.ref 66), some (.int (Int32.ofNat i))] [] σ b := by
  have hi2 : i ≤ 3072 := by omega
  have e1 : Int32.toNatClampNeg (Int32.ofNat i + 1) = i + 1 := lw_c (j := 1) hi2 (by decide)
  refine xgo bx_20 (xbifT (lw_0 hs) (xitT (lw_in (j := 1) hs hN hi (by decide)) (xbifT (lw_9 hs) ?_)))
  simp only [e1]
  refine xuse (xCd_fr (σ0 := σ) 30 _ _ _ _ (lw_sm hs) h) hd ?_
  rintro r τ ⟨q, hsm, hrt⟩
  obtain ⟨v, rfl⟩ := hrt.1 (Or.inl rfl)
  have ht := sm_lw hs hsm
  refine xgo bm_20 (xbifT (lw_0 ht) (xitT (lw_in (j := 1) ht hN hi (by decide)) (xbifT (lw_66 ht) ?_)))
  simp only [e1, hsm.1]
  refine xuse (xCd_fr (σ0 := τ) 30 _ _ _ _ (lw_sm ht) q) hd ?_
  rintro r' τ' ⟨⟨rfl, hP⟩, hsm2, _⟩
  refine xgo be_20 ?_
  rw [if_pos rfl]
  exact k τ' hP (sm_lw ht hsm2)
set_option maxRecDepth 100000 in
theorem bx_21 {C : xC} {Q : xQ} {K : xK} {σ : xH} {b : Nat × Nat} {a3 : Int32} : xrun k_L_law 2 C Q [] K 12 898 [some (.ref 0), some (.ref 9), some (.ref 66), some (.int a3)] [] σ b = (bif xisi σ 0 then (if xin (a3 + 1) (xlen σ.2.2.2.2 0) then (bif xisi σ 0 then (if xin (a3 + 2) (xlen σ.2.2.2.2 0) then (bif xis σ 9 8 then C 154 [.ref 9, .int (σ.1 0 (Int32.toNatClampNeg (a3 + 1))), .int (σ.1 0 (Int32.toNatClampNeg (a3 + 2)))] σ (fun r τ => K 912 [some (.ref 0), some (.ref 9), some (.ref 66), some (.int a3)] (r.toList ++ []) τ b) else False) else False) else False) else False) else False) := rfl
set_option maxRecDepth 100000 in
theorem bm_21 {C : xC} {Q : xQ} {K : xK} {σ : xH} {b : Nat × Nat} {a3 : Int32} {s0 : Int32} : xrun k_L_law 2 C Q [] K 12 912 [some (.ref 0), some (.ref 9), some (.ref 66), some (.int a3)] [.int s0] σ b = (bif xisi σ 0 then (if xin (a3 + 1) (xlen σ.2.2.2.2 0) then (bif xisi σ 0 then (if xin (a3 + 2) (xlen σ.2.2.2.2 0) then (bif xis σ 66 9 then C 249 [.ref 66, .int (σ.1 0 (Int32.toNatClampNeg (a3 + 1))), .int (σ.1 0 (Int32.toNatClampNeg (a3 + 2)))] σ (fun r τ => K 926 [some (.ref 0), some (.ref 9), some (.ref 66), some (.int a3)] (r.toList ++ [.int s0]) τ b) else False) else False) else False) else False) else False) := rfl
theorem be_21 {C : xC} {Q : xQ} {K : xK} {σ : xH} {b : Nat × Nat} {a3 : Int32} {s0 s1 : Int32} : xrun k_L_law 2 C Q [] K 1 926 [some (.ref 0), some (.ref 9), some (.ref 66), some (.int a3)] [.int s1, .int s0] σ b = (if s0 = s1 then K 1427 [some (.ref 0), some (.ref 9), some (.ref 66), some (.int a3)] [] σ b else K 929 [some (.ref 0), some (.ref 9), some (.ref 66), some (.int a3)] [] σ b) := rfl
theorem lc_21 {d N i : Nat} {F : xQ} {σ : xH} {b : Nat × Nat} {P : xH → Prop} (hd : 30 ≤ d) (hN : N ≤ 3072) (hs : lwS N σ) (hi : i + 6 ≤ N) (h : xCd 30 154 (.ref 9 :: [.int (σ.1 0 (i + 1)), .int (σ.1 0 (i + 2))]) σ (fun r τ => xCd 30 249 (.ref 66 :: [.int (σ.1 0 (i + 1)), .int (σ.1 0 (i + 2))]) τ (fun r' τ' => r' = r ∧ P τ'))) (k : ∀ τ, P τ → lwS N τ → xEX k_L_law 2 (xCd d) F 1427 [some (.ref 0), some (.ref 9), some (.ref 66), some (.int (Int32.ofNat i))] [] τ b) : xEX k_L_law 2 (xCd d) F 898 [some (.ref 0), some (.ref 9), some (.ref 66), some (.int (Int32.ofNat i))] [] σ b := by
  have hi2 : i ≤ 3072 := by omega
  have e1 : Int32.toNatClampNeg (Int32.ofNat i + 1) = i + 1 := lw_c (j := 1) hi2 (by decide)
  have e2 : Int32.toNatClampNeg (Int32.ofNat i + 2) = i + 2 := lw_c (j := 2) hi2 (by decide)
  refine xgo bx_21 (xbifT (lw_0 hs) (xitT (lw_in (j := 1) hs hN hi (by decide)) (xbifT (lw_0 hs) (xitT (lw_in (j := 2) hs hN hi (by decide)) (xbifT (lw_9 hs) ?_)))))
  simp only [e1, e2]
  refine xuse (xCd_fr (σ0 := σ) 30 _ _ _ _ (lw_sm hs) h) hd ?_
  rintro r τ ⟨q, hsm, hrt⟩
  obtain ⟨v, rfl⟩ := hrt.1 (Or.inl rfl)
  have ht := sm_lw hs hsm
  refine xgo bm_21 (xbifT (lw_0 ht) (xitT (lw_in (j := 1) ht hN hi (by decide)) (xbifT (lw_0 ht) (xitT (lw_in (j := 2) ht hN hi (by decide)) (xbifT (lw_66 ht) ?_)))))
  simp only [e1, e2, hsm.1]
  refine xuse (xCd_fr (σ0 := τ) 30 _ _ _ _ (lw_sm ht) q) hd ?_
  rintro r' τ' ⟨⟨rfl, hP⟩, hsm2, _⟩
  refine xgo be_21 ?_
  rw [if_pos rfl]
  exact k τ' hP (sm_lw ht hsm2)
set_option maxRecDepth 100000 in
theorem bx_22 {C : xC} {Q : xQ} {K : xK} {σ : xH} {b : Nat × Nat} {a3 : Int32} : xrun k_L_law 2 C Q [] K 2 931 [some (.ref 0), some (.ref 9), some (.ref 66), some (.int a3)] [] σ b = (bif xis σ 9 8 then C 155 [.ref 9] σ (fun r τ => K 935 [some (.ref 0), some (.ref 9), some (.ref 66), some (.int a3)] (r.toList ++ []) τ b) else False) := rfl
set_option maxRecDepth 100000 in
theorem bm_22 {C : xC} {Q : xQ} {K : xK} {σ : xH} {b : Nat × Nat} {a3 : Int32} {s0 : Int32} : xrun k_L_law 2 C Q [] K 2 935 [some (.ref 0), some (.ref 9), some (.ref 66), some (.int a3)] [.int s0] σ b = (bif xis σ 66 9 then C 251 [.ref 66] σ (fun r τ => K 939 [some (.ref 0), some (.ref 9), some (.ref 66), some (.int a3)] (r.toList ++ [.int s0]) τ b) else False) := rfl
theorem be_22 {C : xC} {Q : xQ} {K : xK} {σ : xH} {b : Nat × Nat} {a3 : Int32} {s0 s1 : Int32} : xrun k_L_law 2 C Q [] K 1 939 [some (.ref 0), some (.ref 9), some (.ref 66), some (.int a3)] [.int s1, .int s0] σ b = (if s0 = s1 then K 1427 [some (.ref 0), some (.ref 9), some (.ref 66), some (.int a3)] [] σ b else K 942 [some (.ref 0), some (.ref 9), some (.ref 66), some (.int a3)] [] σ b) := rfl
theorem lc_22 {d N i : Nat} {F : xQ} {σ : xH} {b : Nat × Nat} {P : xH → Prop} (hd : 30 ≤ d) (hN : N ≤ 3072) (hs : lwS N σ) (hi : i + 6 ≤ N) (h : xCd 30 155 (.ref 9 :: []) σ (fun r τ => xCd 30 251 (.ref 66 :: []) τ (fun r' τ' => r' = r ∧ P τ'))) (k : ∀ τ, P τ → lwS N τ → xEX k_L_law 2 (xCd d) F 1427 [some (.ref 0), some (.ref 9), some (.ref 66), some (.int (Int32.ofNat i))] [] τ b) : xEX k_L_law 2 (xCd d) F 931 [some (.ref 0), some (.ref 9), some (.ref 66), some (.int (Int32.ofNat i))] [] σ b := by
  have hi2 : i ≤ 3072 := by omega
  refine xgo bx_22 (xbifT (lw_9 hs) ?_)
  refine xuse (xCd_fr (σ0 := σ) 30 _ _ _ _ (lw_sm hs) h) hd ?_
  rintro r τ ⟨q, hsm, hrt⟩
  obtain ⟨v, rfl⟩ := hrt.1 (Or.inl rfl)
  have ht := sm_lw hs hsm
  refine xgo bm_22 (xbifT (lw_66 ht) ?_)
  refine xuse (xCd_fr (σ0 := τ) 30 _ _ _ _ (lw_sm ht) q) hd ?_
  rintro r' τ' ⟨⟨rfl, hP⟩, hsm2, _⟩
  refine xgo be_22 ?_
  rw [if_pos rfl]
  exact k τ' hP (sm_lw ht hsm2)
set_option maxRecDepth 100000 in
theorem bx_23 {C : xC} {Q : xQ} {K : xK} {σ : xH} {b : Nat × Nat} {a3 : Int32} : xrun k_L_law 2 C Q [] K 17 944 [some (.ref 0), some (.ref 9), some (.ref 66), some (.int a3)] [] σ b = (bif xisi σ 0 then (if xin (a3 + 1) (xlen σ.2.2.2.2 0) then (bif xisi σ 0 then (if xin (a3 + 2) (xlen σ.2.2.2.2 0) then (bif xisi σ 0 then (if xin (a3 + 3) (xlen σ.2.2.2.2 0) then (bif xis σ 9 8 then C 156 [.ref 9, .int (σ.1 0 (Int32.toNatClampNeg (a3 + 1))), .int (σ.1 0 (Int32.toNatClampNeg (a3 + 2))), .int (σ.1 0 (Int32.toNatClampNeg (a3 + 3)))] σ (fun r τ => K 963 [some (.ref 0), some (.ref 9), some (.ref 66), some (.int a3)] (r.toList ++ []) τ b) else False) else False) else False) else False) else False) else False) else False) := rfl
set_option maxRecDepth 100000 in
theorem bm_23 {C : xC} {Q : xQ} {K : xK} {σ : xH} {b : Nat × Nat} {a3 : Int32} {s0 : Int32} : xrun k_L_law 2 C Q [] K 17 963 [some (.ref 0), some (.ref 9), some (.ref 66), some (.int a3)] [.int s0] σ b = (bif xisi σ 0 then (if xin (a3 + 1) (xlen σ.2.2.2.2 0) then (bif xisi σ 0 then (if xin (a3 + 2) (xlen σ.2.2.2.2 0) then (bif xisi σ 0 then (if xin (a3 + 3) (xlen σ.2.2.2.2 0) then (bif xis σ 66 9 then C 254 [.ref 66, .int (σ.1 0 (Int32.toNatClampNeg (a3 + 1))), .int (σ.1 0 (Int32.toNatClampNeg (a3 + 2))), .int (σ.1 0 (Int32.toNatClampNeg (a3 + 3)))] σ (fun r τ => K 982 [some (.ref 0), some (.ref 9), some (.ref 66), some (.int a3)] (r.toList ++ [.int s0]) τ b) else False) else False) else False) else False) else False) else False) else False) := rfl
theorem be_23 {C : xC} {Q : xQ} {K : xK} {σ : xH} {b : Nat × Nat} {a3 : Int32} {s0 s1 : Int32} : xrun k_L_law 2 C Q [] K 1 982 [some (.ref 0), some (.ref 9), some (.ref 66), some (.int a3)] [.int s1, .int s0] σ b = (if s0 = s1 then K 1427 [some (.ref 0), some (.ref 9), some (.ref 66), some (.int a3)] [] σ b else K 985 [some (.ref 0), some (.ref 9), some (.ref 66), some (.int a3)] [] σ b) := rfl
theorem lc_23 {d N i : Nat} {F : xQ} {σ : xH} {b : Nat × Nat} {P : xH → Prop} (hd : 30 ≤ d) (hN : N ≤ 3072) (hs : lwS N σ) (hi : i + 6 ≤ N) (h : xCd 30 156 (.ref 9 :: [.int (σ.1 0 (i + 1)), .int (σ.1 0 (i + 2)), .int (σ.1 0 (i + 3))]) σ (fun r τ => xCd 30 254 (.ref 66 :: [.int (σ.1 0 (i + 1)), .int (σ.1 0 (i + 2)), .int (σ.1 0 (i + 3))]) τ (fun r' τ' => r' = r ∧ P τ'))) (k : ∀ τ, P τ → lwS N τ → xEX k_L_law 2 (xCd d) F 1427 [some (.ref 0), some (.ref 9), some (.ref 66), some (.int (Int32.ofNat i))] [] τ b) : xEX k_L_law 2 (xCd d) F 944 [some (.ref 0), some (.ref 9), some (.ref 66), some (.int (Int32.ofNat i))] [] σ b := by
  have hi2 : i ≤ 3072 := by omega
  have e1 : Int32.toNatClampNeg (Int32.ofNat i + 1) = i + 1 := lw_c (j := 1) hi2 (by decide)
  have e2 : Int32.toNatClampNeg (Int32.ofNat i + 2) = i + 2 := lw_c (j := 2) hi2 (by decide)
  have e3 : Int32.toNatClampNeg (Int32.ofNat i + 3) = i + 3 := lw_c (j := 3) hi2 (by decide)
  refine xgo bx_23 (xbifT (lw_0 hs) (xitT (lw_in (j := 1) hs hN hi (by decide)) (xbifT (lw_0 hs) (xitT (lw_in (j := 2) hs hN hi (by decide)) (xbifT (lw_0 hs) (xitT (lw_in (j := 3) hs hN hi (by decide)) (xbifT (lw_9 hs) ?_)))))))
  simp only [e1, e2, e3]
  refine xuse (xCd_fr (σ0 := σ) 30 _ _ _ _ (lw_sm hs) h) hd ?_
  rintro r τ ⟨q, hsm, hrt⟩
  obtain ⟨v, rfl⟩ := hrt.1 (Or.inl rfl)
  have ht := sm_lw hs hsm
  refine xgo bm_23 (xbifT (lw_0 ht) (xitT (lw_in (j := 1) ht hN hi (by decide)) (xbifT (lw_0 ht) (xitT (lw_in (j := 2) ht hN hi (by decide)) (xbifT (lw_0 ht) (xitT (lw_in (j := 3) ht hN hi (by decide)) (xbifT (lw_66 ht) ?_)))))))
  simp only [e1, e2, e3, hsm.1]
  refine xuse (xCd_fr (σ0 := τ) 30 _ _ _ _ (lw_sm ht) q) hd ?_
  rintro r' τ' ⟨⟨rfl, hP⟩, hsm2, _⟩
  refine xgo be_23 ?_
  rw [if_pos rfl]
  exact k τ' hP (sm_lw ht hsm2)
set_option maxRecDepth 100000 in
theorem bx_24 {C : xC} {Q : xQ} {K : xK} {σ : xH} {b : Nat × Nat} {a3 : Int32} : xrun k_L_law 2 C Q [] K 7 987 [some (.ref 0), some (.ref 9), some (.ref 66), some (.int a3)] [] σ b = (bif xisi σ 0 then (if xin (a3 + 1) (xlen σ.2.2.2.2 0) then (bif xis σ 9 8 then C 157 [.ref 9, .int (σ.1 0 (Int32.toNatClampNeg (a3 + 1)))] σ (fun r τ => K 996 [some (.ref 0), some (.ref 9), some (.ref 66), some (.int a3)] (r.toList ++ []) τ b) else False) else False) else False) := rfl
set_option maxRecDepth 100000 in
theorem bm_24 {C : xC} {Q : xQ} {K : xK} {σ : xH} {b : Nat × Nat} {a3 : Int32} {s0 : Int32} : xrun k_L_law 2 C Q [] K 7 996 [some (.ref 0), some (.ref 9), some (.ref 66), some (.int a3)] [.int s0] σ b = (bif xisi σ 0 then (if xin (a3 + 1) (xlen σ.2.2.2.2 0) then (bif xis σ 66 9 then C 256 [.ref 66, .int (σ.1 0 (Int32.toNatClampNeg (a3 + 1)))] σ (fun r τ => K 1005 [some (.ref 0), some (.ref 9), some (.ref 66), some (.int a3)] (r.toList ++ [.int s0]) τ b) else False) else False) else False) := rfl
theorem be_24 {C : xC} {Q : xQ} {K : xK} {σ : xH} {b : Nat × Nat} {a3 : Int32} {s0 s1 : Int32} : xrun k_L_law 2 C Q [] K 1 1005 [some (.ref 0), some (.ref 9), some (.ref 66), some (.int a3)] [.int s1, .int s0] σ b = (if s0 = s1 then K 1427 [some (.ref 0), some (.ref 9), some (.ref 66), some (.int a3)] [] σ b else K 1008 [some (.ref 0), some (.ref 9), some (.ref 66), some (.int a3)] [] σ b) := rfl
theorem lc_24 {d N i : Nat} {F : xQ} {σ : xH} {b : Nat × Nat} {P : xH → Prop} (hd : 30 ≤ d) (hN : N ≤ 3072) (hs : lwS N σ) (hi : i + 6 ≤ N) (h : xCd 30 157 (.ref 9 :: [.int (σ.1 0 (i + 1))]) σ (fun r τ => xCd 30 256 (.ref 66 :: [.int (σ.1 0 (i + 1))]) τ (fun r' τ' => r' = r ∧ P τ'))) (k : ∀ τ, P τ → lwS N τ → xEX k_L_law 2 (xCd d) F 1427 [some (.ref 0), some (.ref 9), some (.ref 66), some (.int (Int32.ofNat i))] [] τ b) : xEX k_L_law 2 (xCd d) F 987 [some (.ref 0), some (.ref 9), some (.ref 66), some (.int (Int32.ofNat i))] [] σ b := by
  have hi2 : i ≤ 3072 := by omega
  have e1 : Int32.toNatClampNeg (Int32.ofNat i + 1) = i + 1 := lw_c (j := 1) hi2 (by decide)
  refine xgo bx_24 (xbifT (lw_0 hs) (xitT (lw_in (j := 1) hs hN hi (by decide)) (xbifT (lw_9 hs) ?_)))
  simp only [e1]
  refine xuse (xCd_fr (σ0 := σ) 30 _ _ _ _ (lw_sm hs) h) hd ?_
  rintro r τ ⟨q, hsm, hrt⟩
  obtain ⟨v, rfl⟩ := hrt.1 (Or.inl rfl)
  have ht := sm_lw hs hsm
  refine xgo bm_24 (xbifT (lw_0 ht) (xitT (lw_in (j := 1) ht hN hi (by decide)) (xbifT (lw_66 ht) ?_)))
  simp only [e1, hsm.1]
  refine xuse (xCd_fr (σ0 := τ) 30 _ _ _ _ (lw_sm ht) q) hd ?_
  rintro r' τ' ⟨⟨rfl, hP⟩, hsm2, _⟩
  refine xgo be_24 ?_
  rw [if_pos rfl]
  exact k τ' hP (sm_lw ht hsm2)
set_option maxRecDepth 100000 in
theorem bx_25 {C : xC} {Q : xQ} {K : xK} {σ : xH} {b : Nat × Nat} {a3 : Int32} : xrun k_L_law 2 C Q [] K 7 1010 [some (.ref 0), some (.ref 9), some (.ref 66), some (.int a3)] [] σ b = (bif xisi σ 0 then (if xin (a3 + 1) (xlen σ.2.2.2.2 0) then (bif xis σ 9 8 then C 158 [.ref 9, .int (σ.1 0 (Int32.toNatClampNeg (a3 + 1)))] σ (fun r τ => K 1019 [some (.ref 0), some (.ref 9), some (.ref 66), some (.int a3)] (r.toList ++ []) τ b) else False) else False) else False) := rfl
set_option maxRecDepth 100000 in
theorem bm_25 {C : xC} {Q : xQ} {K : xK} {σ : xH} {b : Nat × Nat} {a3 : Int32} {s0 : Int32} : xrun k_L_law 2 C Q [] K 7 1019 [some (.ref 0), some (.ref 9), some (.ref 66), some (.int a3)] [.int s0] σ b = (bif xisi σ 0 then (if xin (a3 + 1) (xlen σ.2.2.2.2 0) then (bif xis σ 66 9 then C 262 [.ref 66, .int (σ.1 0 (Int32.toNatClampNeg (a3 + 1)))] σ (fun r τ => K 1028 [some (.ref 0), some (.ref 9), some (.ref 66), some (.int a3)] (r.toList ++ [.int s0]) τ b) else False) else False) else False) := rfl
theorem be_25 {C : xC} {Q : xQ} {K : xK} {σ : xH} {b : Nat × Nat} {a3 : Int32} {s0 s1 : Int32} : xrun k_L_law 2 C Q [] K 1 1028 [some (.ref 0), some (.ref 9), some (.ref 66), some (.int a3)] [.int s1, .int s0] σ b = (if s0 = s1 then K 1427 [some (.ref 0), some (.ref 9), some (.ref 66), some (.int a3)] [] σ b else K 1031 [some (.ref 0), some (.ref 9), some (.ref 66), some (.int a3)] [] σ b) := rfl
theorem lc_25 {d N i : Nat} {F : xQ} {σ : xH} {b : Nat × Nat} {P : xH → Prop} (hd : 30 ≤ d) (hN : N ≤ 3072) (hs : lwS N σ) (hi : i + 6 ≤ N) (h : xCd 30 158 (.ref 9 :: [.int (σ.1 0 (i + 1))]) σ (fun r τ => xCd 30 262 (.ref 66 :: [.int (σ.1 0 (i + 1))]) τ (fun r' τ' => r' = r ∧ P τ'))) (k : ∀ τ, P τ → lwS N τ → xEX k_L_law 2 (xCd d) F 1427 [some (.ref 0), some (.ref 9), some (.ref 66), some (.int (Int32.ofNat i))] [] τ b) : xEX k_L_law 2 (xCd d) F 1010 [some (.ref 0), some (.ref 9), some (.ref 66), some (.int (Int32.ofNat i))] [] σ b := by
  have hi2 : i ≤ 3072 := by omega
  have e1 : Int32.toNatClampNeg (Int32.ofNat i + 1) = i + 1 := lw_c (j := 1) hi2 (by decide)
  refine xgo bx_25 (xbifT (lw_0 hs) (xitT (lw_in (j := 1) hs hN hi (by decide)) (xbifT (lw_9 hs) ?_)))
  simp only [e1]
  refine xuse (xCd_fr (σ0 := σ) 30 _ _ _ _ (lw_sm hs) h) hd ?_
  rintro r τ ⟨q, hsm, hrt⟩
  obtain ⟨v, rfl⟩ := hrt.1 (Or.inl rfl)
  have ht := sm_lw hs hsm
  refine xgo bm_25 (xbifT (lw_0 ht) (xitT (lw_in (j := 1) ht hN hi (by decide)) (xbifT (lw_66 ht) ?_)))
  simp only [e1, hsm.1]
  refine xuse (xCd_fr (σ0 := τ) 30 _ _ _ _ (lw_sm ht) q) hd ?_
  rintro r' τ' ⟨⟨rfl, hP⟩, hsm2, _⟩
  refine xgo be_25 ?_
  rw [if_pos rfl]
  exact k τ' hP (sm_lw ht hsm2)
set_option maxRecDepth 100000 in
theorem bx_26 {C : xC} {Q : xQ} {K : xK} {σ : xH} {b : Nat × Nat} {a3 : Int32} : xrun k_L_law 2 C Q [] K 2 1033 [some (.ref 0), some (.ref 9), some (.ref 66), some (.int a3)] [] σ b = (bif xis σ 9 8 then C 159 [.ref 9] σ (fun r τ => K 1037 [some (.ref 0), some (.ref 9), some (.ref 66), some (.int a3)] (r.toList ++ []) τ b) else False) := rfl
set_option maxRecDepth 100000 in
theorem bm_26 {C : xC} {Q : xQ} {K : xK} {σ : xH} {b : Nat × Nat} {a3 : Int32} {s0 : Int32} : xrun k_L_law 2 C Q [] K 2 1037 [some (.ref 0), some (.ref 9), some (.ref 66), some (.int a3)] [.int s0] σ b = (bif xis σ 66 9 then C 264 [.ref 66] σ (fun r τ => K 1041 [some (.ref 0), some (.ref 9), some (.ref 66), some (.int a3)] (r.toList ++ [.int s0]) τ b) else False) := rfl
theorem be_26 {C : xC} {Q : xQ} {K : xK} {σ : xH} {b : Nat × Nat} {a3 : Int32} {s0 s1 : Int32} : xrun k_L_law 2 C Q [] K 1 1041 [some (.ref 0), some (.ref 9), some (.ref 66), some (.int a3)] [.int s1, .int s0] σ b = (if s0 = s1 then K 1427 [some (.ref 0), some (.ref 9), some (.ref 66), some (.int a3)] [] σ b else K 1044 [some (.ref 0), some (.ref 9), some (.ref 66), some (.int a3)] [] σ b) := rfl
theorem lc_26 {d N i : Nat} {F : xQ} {σ : xH} {b : Nat × Nat} {P : xH → Prop} (hd : 30 ≤ d) (hN : N ≤ 3072) (hs : lwS N σ) (hi : i + 6 ≤ N) (h : xCd 30 159 (.ref 9 :: []) σ (fun r τ => xCd 30 264 (.ref 66 :: []) τ (fun r' τ' => r' = r ∧ P τ'))) (k : ∀ τ, P τ → lwS N τ → xEX k_L_law 2 (xCd d) F 1427 [some (.ref 0), some (.ref 9), some (.ref 66), some (.int (Int32.ofNat i))] [] τ b) : xEX k_L_law 2 (xCd d) F 1033 [some (.ref 0), some (.ref 9), some (.ref 66), some (.int (Int32.ofNat i))] [] σ b := by
  have hi2 : i ≤ 3072 := by omega
  refine xgo bx_26 (xbifT (lw_9 hs) ?_)
  refine xuse (xCd_fr (σ0 := σ) 30 _ _ _ _ (lw_sm hs) h) hd ?_
  rintro r τ ⟨q, hsm, hrt⟩
  obtain ⟨v, rfl⟩ := hrt.1 (Or.inl rfl)
  have ht := sm_lw hs hsm
  refine xgo bm_26 (xbifT (lw_66 ht) ?_)
  refine xuse (xCd_fr (σ0 := τ) 30 _ _ _ _ (lw_sm ht) q) hd ?_
  rintro r' τ' ⟨⟨rfl, hP⟩, hsm2, _⟩
  refine xgo be_26 ?_
  rw [if_pos rfl]
  exact k τ' hP (sm_lw ht hsm2)
set_option maxRecDepth 100000 in
theorem bx_27 {C : xC} {Q : xQ} {K : xK} {σ : xH} {b : Nat × Nat} {a3 : Int32} : xrun k_L_law 2 C Q [] K 7 1046 [some (.ref 0), some (.ref 9), some (.ref 66), some (.int a3)] [] σ b = (bif xisi σ 0 then (if xin (a3 + 1) (xlen σ.2.2.2.2 0) then (bif xis σ 9 8 then C 160 [.ref 9, .int (σ.1 0 (Int32.toNatClampNeg (a3 + 1)))] σ (fun r τ => K 1055 [some (.ref 0), some (.ref 9), some (.ref 66), some (.int a3)] (r.toList ++ []) τ b) else False) else False) else False) := rfl
set_option maxRecDepth 100000 in
theorem bm_27 {C : xC} {Q : xQ} {K : xK} {σ : xH} {b : Nat × Nat} {a3 : Int32} {s0 : Int32} : xrun k_L_law 2 C Q [] K 7 1055 [some (.ref 0), some (.ref 9), some (.ref 66), some (.int a3)] [.int s0] σ b = (bif xisi σ 0 then (if xin (a3 + 1) (xlen σ.2.2.2.2 0) then (bif xis σ 66 9 then C 265 [.ref 66, .int (σ.1 0 (Int32.toNatClampNeg (a3 + 1)))] σ (fun r τ => K 1064 [some (.ref 0), some (.ref 9), some (.ref 66), some (.int a3)] (r.toList ++ [.int s0]) τ b) else False) else False) else False) := rfl
theorem be_27 {C : xC} {Q : xQ} {K : xK} {σ : xH} {b : Nat × Nat} {a3 : Int32} {s0 s1 : Int32} : xrun k_L_law 2 C Q [] K 1 1064 [some (.ref 0), some (.ref 9), some (.ref 66), some (.int a3)] [.int s1, .int s0] σ b = (if s0 = s1 then K 1427 [some (.ref 0), some (.ref 9), some (.ref 66), some (.int a3)] [] σ b else K 1067 [some (.ref 0), some (.ref 9), some (.ref 66), some (.int a3)] [] σ b) := rfl
theorem lc_27 {d N i : Nat} {F : xQ} {σ : xH} {b : Nat × Nat} {P : xH → Prop} (hd : 30 ≤ d) (hN : N ≤ 3072) (hs : lwS N σ) (hi : i + 6 ≤ N) (h : xCd 30 160 (.ref 9 :: [.int (σ.1 0 (i + 1))]) σ (fun r τ => xCd 30 265 (.ref 66 :: [.int (σ.1 0 (i + 1))]) τ (fun r' τ' => r' = r ∧ P τ'))) (k : ∀ τ, P τ → lwS N τ → xEX k_L_law 2 (xCd d) F 1427 [some (.ref 0), some (.ref 9), some (.ref 66), some (.int (Int32.ofNat i))] [] τ b) : xEX k_L_law 2 (xCd d) F 1046 [some (.ref 0), some (.ref 9), some (.ref 66), some (.int (Int32.ofNat i))] [] σ b := by
  have hi2 : i ≤ 3072 := by omega
  have e1 : Int32.toNatClampNeg (Int32.ofNat i + 1) = i + 1 := lw_c (j := 1) hi2 (by decide)
  refine xgo bx_27 (xbifT (lw_0 hs) (xitT (lw_in (j := 1) hs hN hi (by decide)) (xbifT (lw_9 hs) ?_)))
  simp only [e1]
  refine xuse (xCd_fr (σ0 := σ) 30 _ _ _ _ (lw_sm hs) h) hd ?_
  rintro r τ ⟨q, hsm, hrt⟩
  obtain ⟨v, rfl⟩ := hrt.1 (Or.inl rfl)
  have ht := sm_lw hs hsm
  refine xgo bm_27 (xbifT (lw_0 ht) (xitT (lw_in (j := 1) ht hN hi (by decide)) (xbifT (lw_66 ht) ?_)))
  simp only [e1, hsm.1]
  refine xuse (xCd_fr (σ0 := τ) 30 _ _ _ _ (lw_sm ht) q) hd ?_
  rintro r' τ' ⟨⟨rfl, hP⟩, hsm2, _⟩
  refine xgo be_27 ?_
  rw [if_pos rfl]
  exact k τ' hP (sm_lw ht hsm2)
set_option maxRecDepth 100000 in
theorem bx_28 {C : xC} {Q : xQ} {K : xK} {σ : xH} {b : Nat × Nat} {a3 : Int32} : xrun k_L_law 2 C Q [] K 7 1069 [some (.ref 0), some (.ref 9), some (.ref 66), some (.int a3)] [] σ b = (bif xisi σ 0 then (if xin (a3 + 1) (xlen σ.2.2.2.2 0) then (bif xis σ 9 8 then C 161 [.ref 9, .int (σ.1 0 (Int32.toNatClampNeg (a3 + 1)))] σ (fun r τ => K 1078 [some (.ref 0), some (.ref 9), some (.ref 66), some (.int a3)] (r.toList ++ []) τ b) else False) else False) else False) := rfl
set_option maxRecDepth 100000 in
theorem bm_28 {C : xC} {Q : xQ} {K : xK} {σ : xH} {b : Nat × Nat} {a3 : Int32} {s0 : Int32} : xrun k_L_law 2 C Q [] K 7 1078 [some (.ref 0), some (.ref 9), some (.ref 66), some (.int a3)] [.int s0] σ b = (bif xisi σ 0 then (if xin (a3 + 1) (xlen σ.2.2.2.2 0) then (bif xis σ 66 9 then C 272 [.ref 66, .int (σ.1 0 (Int32.toNatClampNeg (a3 + 1)))] σ (fun r τ => K 1087 [some (.ref 0), some (.ref 9), some (.ref 66), some (.int a3)] (r.toList ++ [.int s0]) τ b) else False) else False) else False) := rfl
theorem be_28 {C : xC} {Q : xQ} {K : xK} {σ : xH} {b : Nat × Nat} {a3 : Int32} {s0 s1 : Int32} : xrun k_L_law 2 C Q [] K 1 1087 [some (.ref 0), some (.ref 9), some (.ref 66), some (.int a3)] [.int s1, .int s0] σ b = (if s0 = s1 then K 1427 [some (.ref 0), some (.ref 9), some (.ref 66), some (.int a3)] [] σ b else K 1090 [some (.ref 0), some (.ref 9), some (.ref 66), some (.int a3)] [] σ b) := rfl
theorem lc_28 {d N i : Nat} {F : xQ} {σ : xH} {b : Nat × Nat} {P : xH → Prop} (hd : 30 ≤ d) (hN : N ≤ 3072) (hs : lwS N σ) (hi : i + 6 ≤ N) (h : xCd 30 161 (.ref 9 :: [.int (σ.1 0 (i + 1))]) σ (fun r τ => xCd 30 272 (.ref 66 :: [.int (σ.1 0 (i + 1))]) τ (fun r' τ' => r' = r ∧ P τ'))) (k : ∀ τ, P τ → lwS N τ → xEX k_L_law 2 (xCd d) F 1427 [some (.ref 0), some (.ref 9), some (.ref 66), some (.int (Int32.ofNat i))] [] τ b) : xEX k_L_law 2 (xCd d) F 1069 [some (.ref 0), some (.ref 9), some (.ref 66), some (.int (Int32.ofNat i))] [] σ b := by
  have hi2 : i ≤ 3072 := by omega
  have e1 : Int32.toNatClampNeg (Int32.ofNat i + 1) = i + 1 := lw_c (j := 1) hi2 (by decide)
  refine xgo bx_28 (xbifT (lw_0 hs) (xitT (lw_in (j := 1) hs hN hi (by decide)) (xbifT (lw_9 hs) ?_)))
  simp only [e1]
  refine xuse (xCd_fr (σ0 := σ) 30 _ _ _ _ (lw_sm hs) h) hd ?_
  rintro r τ ⟨q, hsm, hrt⟩
  obtain ⟨v, rfl⟩ := hrt.1 (Or.inl rfl)
  have ht := sm_lw hs hsm
  refine xgo bm_28 (xbifT (lw_0 ht) (xitT (lw_in (j := 1) ht hN hi (by decide)) (xbifT (lw_66 ht) ?_)))
  simp only [e1, hsm.1]
  refine xuse (xCd_fr (σ0 := τ) 30 _ _ _ _ (lw_sm ht) q) hd ?_
  rintro r' τ' ⟨⟨rfl, hP⟩, hsm2, _⟩
  refine xgo be_28 ?_
  rw [if_pos rfl]
  exact k τ' hP (sm_lw ht hsm2)
set_option maxRecDepth 100000 in
theorem bx_29 {C : xC} {Q : xQ} {K : xK} {σ : xH} {b : Nat × Nat} {a3 : Int32} : xrun k_L_law 2 C Q [] K 12 1092 [some (.ref 0), some (.ref 9), some (.ref 66), some (.int a3)] [] σ b = (bif xisi σ 0 then (if xin (a3 + 1) (xlen σ.2.2.2.2 0) then (bif xisi σ 0 then (if xin (a3 + 2) (xlen σ.2.2.2.2 0) then (bif xis σ 9 8 then C 162 [.ref 9, .int (σ.1 0 (Int32.toNatClampNeg (a3 + 1))), .int (σ.1 0 (Int32.toNatClampNeg (a3 + 2)))] σ (fun r τ => K 1106 [some (.ref 0), some (.ref 9), some (.ref 66), some (.int a3)] (r.toList ++ []) τ b) else False) else False) else False) else False) else False) := rfl
set_option maxRecDepth 100000 in
theorem bm_29 {C : xC} {Q : xQ} {K : xK} {σ : xH} {b : Nat × Nat} {a3 : Int32} {s0 : Int32} : xrun k_L_law 2 C Q [] K 12 1106 [some (.ref 0), some (.ref 9), some (.ref 66), some (.int a3)] [.int s0] σ b = (bif xisi σ 0 then (if xin (a3 + 1) (xlen σ.2.2.2.2 0) then (bif xisi σ 0 then (if xin (a3 + 2) (xlen σ.2.2.2.2 0) then (bif xis σ 66 9 then C 276 [.ref 66, .int (σ.1 0 (Int32.toNatClampNeg (a3 + 1))), .int (σ.1 0 (Int32.toNatClampNeg (a3 + 2)))] σ (fun r τ => K 1120 [some (.ref 0), some (.ref 9), some (.ref 66), some (.int a3)] (r.toList ++ [.int s0]) τ b) else False) else False) else False) else False) else False) := rfl
theorem be_29 {C : xC} {Q : xQ} {K : xK} {σ : xH} {b : Nat × Nat} {a3 : Int32} {s0 s1 : Int32} : xrun k_L_law 2 C Q [] K 1 1120 [some (.ref 0), some (.ref 9), some (.ref 66), some (.int a3)] [.int s1, .int s0] σ b = (if s0 = s1 then K 1427 [some (.ref 0), some (.ref 9), some (.ref 66), some (.int a3)] [] σ b else K 1123 [some (.ref 0), some (.ref 9), some (.ref 66), some (.int a3)] [] σ b) := rfl
theorem lc_29 {d N i : Nat} {F : xQ} {σ : xH} {b : Nat × Nat} {P : xH → Prop} (hd : 30 ≤ d) (hN : N ≤ 3072) (hs : lwS N σ) (hi : i + 6 ≤ N) (h : xCd 30 162 (.ref 9 :: [.int (σ.1 0 (i + 1)), .int (σ.1 0 (i + 2))]) σ (fun r τ => xCd 30 276 (.ref 66 :: [.int (σ.1 0 (i + 1)), .int (σ.1 0 (i + 2))]) τ (fun r' τ' => r' = r ∧ P τ'))) (k : ∀ τ, P τ → lwS N τ → xEX k_L_law 2 (xCd d) F 1427 [some (.ref 0), some (.ref 9), some (.ref 66), some (.int (Int32.ofNat i))] [] τ b) : xEX k_L_law 2 (xCd d) F 1092 [some (.ref 0), some (.ref 9), some (.ref 66), some (.int (Int32.ofNat i))] [] σ b := by
  have hi2 : i ≤ 3072 := by omega
  have e1 : Int32.toNatClampNeg (Int32.ofNat i + 1) = i + 1 := lw_c (j := 1) hi2 (by decide)
  have e2 : Int32.toNatClampNeg (Int32.ofNat i + 2) = i + 2 := lw_c (j := 2) hi2 (by decide)
  refine xgo bx_29 (xbifT (lw_0 hs) (xitT (lw_in (j := 1) hs hN hi (by decide)) (xbifT (lw_0 hs) (xitT (lw_in (j := 2) hs hN hi (by decide)) (xbifT (lw_9 hs) ?_)))))
  simp only [e1, e2]
  refine xuse (xCd_fr (σ0 := σ) 30 _ _ _ _ (lw_sm hs) h) hd ?_
  rintro r τ ⟨q, hsm, hrt⟩
  obtain ⟨v, rfl⟩ := hrt.1 (Or.inl rfl)
  have ht := sm_lw hs hsm
  refine xgo bm_29 (xbifT (lw_0 ht) (xitT (lw_in (j := 1) ht hN hi (by decide)) (xbifT (lw_0 ht) (xitT (lw_in (j := 2) ht hN hi (by decide)) (xbifT (lw_66 ht) ?_)))))
  simp only [e1, e2, hsm.1]
  refine xuse (xCd_fr (σ0 := τ) 30 _ _ _ _ (lw_sm ht) q) hd ?_
  rintro r' τ' ⟨⟨rfl, hP⟩, hsm2, _⟩
  refine xgo be_29 ?_
  rw [if_pos rfl]
  exact k τ' hP (sm_lw ht hsm2)
set_option maxRecDepth 100000 in
theorem bx_30 {C : xC} {Q : xQ} {K : xK} {σ : xH} {b : Nat × Nat} {a3 : Int32} : xrun k_L_law 2 C Q [] K 7 1125 [some (.ref 0), some (.ref 9), some (.ref 66), some (.int a3)] [] σ b = (bif xisi σ 0 then (if xin (a3 + 1) (xlen σ.2.2.2.2 0) then (bif xis σ 9 8 then C 163 [.ref 9, .int (σ.1 0 (Int32.toNatClampNeg (a3 + 1)))] σ (fun r τ => K 1134 [some (.ref 0), some (.ref 9), some (.ref 66), some (.int a3)] (r.toList ++ []) τ b) else False) else False) else False) := rfl
set_option maxRecDepth 100000 in
theorem bm_30 {C : xC} {Q : xQ} {K : xK} {σ : xH} {b : Nat × Nat} {a3 : Int32} {s0 : Int32} : xrun k_L_law 2 C Q [] K 7 1134 [some (.ref 0), some (.ref 9), some (.ref 66), some (.int a3)] [.int s0] σ b = (bif xisi σ 0 then (if xin (a3 + 1) (xlen σ.2.2.2.2 0) then (bif xis σ 66 9 then C 277 [.ref 66, .int (σ.1 0 (Int32.toNatClampNeg (a3 + 1)))] σ (fun r τ => K 1143 [some (.ref 0), some (.ref 9), some (.ref 66), some (.int a3)] (r.toList ++ [.int s0]) τ b) else False) else False) else False) := rfl
theorem be_30 {C : xC} {Q : xQ} {K : xK} {σ : xH} {b : Nat × Nat} {a3 : Int32} {s0 s1 : Int32} : xrun k_L_law 2 C Q [] K 1 1143 [some (.ref 0), some (.ref 9), some (.ref 66), some (.int a3)] [.int s1, .int s0] σ b = (if s0 = s1 then K 1427 [some (.ref 0), some (.ref 9), some (.ref 66), some (.int a3)] [] σ b else K 1146 [some (.ref 0), some (.ref 9), some (.ref 66), some (.int a3)] [] σ b) := rfl
theorem lc_30 {d N i : Nat} {F : xQ} {σ : xH} {b : Nat × Nat} {P : xH → Prop} (hd : 30 ≤ d) (hN : N ≤ 3072) (hs : lwS N σ) (hi : i + 6 ≤ N) (h : xCd 30 163 (.ref 9 :: [.int (σ.1 0 (i + 1))]) σ (fun r τ => xCd 30 277 (.ref 66 :: [.int (σ.1 0 (i + 1))]) τ (fun r' τ' => r' = r ∧ P τ'))) (k : ∀ τ, P τ → lwS N τ → xEX k_L_law 2 (xCd d) F 1427 [some (.ref 0), some (.ref 9), some (.ref 66), some (.int (Int32.ofNat i))] [] τ b) : xEX k_L_law 2 (xCd d) F 1125 [some (.ref 0), some (.ref 9), some (.ref 66), some (.int (Int32.ofNat i))] [] σ b := by
  have hi2 : i ≤ 3072 := by omega
  have e1 : Int32.toNatClampNeg (Int32.ofNat i + 1) = i + 1 := lw_c (j := 1) hi2 (by decide)
  refine xgo bx_30 (xbifT (lw_0 hs) (xitT (lw_in (j := 1) hs hN hi (by decide)) (xbifT (lw_9 hs) ?_)))
  simp only [e1]
  refine xuse (xCd_fr (σ0 := σ) 30 _ _ _ _ (lw_sm hs) h) hd ?_
  rintro r τ ⟨q, hsm, hrt⟩
  obtain ⟨v, rfl⟩ := hrt.1 (Or.inl rfl)
  have ht := sm_lw hs hsm
  refine xgo bm_30 (xbifT (lw_0 ht) (xitT (lw_in (j := 1) ht hN hi (by decide)) (xbifT (lw_66 ht) ?_)))
  simp only [e1, hsm.1]
  refine xuse (xCd_fr (σ0 := τ) 30 _ _ _ _ (lw_sm ht) q) hd ?_
  rintro r' τ' ⟨⟨rfl, hP⟩, hsm2, _⟩
  refine xgo be_30 ?_
  rw [if_pos rfl]
  exact k τ' hP (sm_lw ht hsm2)
set_option maxRecDepth 100000 in
theorem bx_31 {C : xC} {Q : xQ} {K : xK} {σ : xH} {b : Nat × Nat} {a3 : Int32} : xrun k_L_law 2 C Q [] K 12 1148 [some (.ref 0), some (.ref 9), some (.ref 66), some (.int a3)] [] σ b = (bif xisi σ 0 then (if xin (a3 + 1) (xlen σ.2.2.2.2 0) then (bif xisi σ 0 then (if xin (a3 + 2) (xlen σ.2.2.2.2 0) then (bif xis σ 9 8 then C 164 [.ref 9, .int (σ.1 0 (Int32.toNatClampNeg (a3 + 1))), .int (σ.1 0 (Int32.toNatClampNeg (a3 + 2)))] σ (fun r τ => K 1162 [some (.ref 0), some (.ref 9), some (.ref 66), some (.int a3)] (r.toList ++ []) τ b) else False) else False) else False) else False) else False) := rfl
set_option maxRecDepth 100000 in
theorem bm_31 {C : xC} {Q : xQ} {K : xK} {σ : xH} {b : Nat × Nat} {a3 : Int32} {s0 : Int32} : xrun k_L_law 2 C Q [] K 12 1162 [some (.ref 0), some (.ref 9), some (.ref 66), some (.int a3)] [.int s0] σ b = (bif xisi σ 0 then (if xin (a3 + 1) (xlen σ.2.2.2.2 0) then (bif xisi σ 0 then (if xin (a3 + 2) (xlen σ.2.2.2.2 0) then (bif xis σ 66 9 then C 278 [.ref 66, .int (σ.1 0 (Int32.toNatClampNeg (a3 + 1))), .int (σ.1 0 (Int32.toNatClampNeg (a3 + 2)))] σ (fun r τ => K 1176 [some (.ref 0), some (.ref 9), some (.ref 66), some (.int a3)] (r.toList ++ [.int s0]) τ b) else False) else False) else False) else False) else False) := rfl
theorem be_31 {C : xC} {Q : xQ} {K : xK} {σ : xH} {b : Nat × Nat} {a3 : Int32} {s0 s1 : Int32} : xrun k_L_law 2 C Q [] K 1 1176 [some (.ref 0), some (.ref 9), some (.ref 66), some (.int a3)] [.int s1, .int s0] σ b = (if s0 = s1 then K 1427 [some (.ref 0), some (.ref 9), some (.ref 66), some (.int a3)] [] σ b else K 1179 [some (.ref 0), some (.ref 9), some (.ref 66), some (.int a3)] [] σ b) := rfl
theorem lc_31 {d N i : Nat} {F : xQ} {σ : xH} {b : Nat × Nat} {P : xH → Prop} (hd : 30 ≤ d) (hN : N ≤ 3072) (hs : lwS N σ) (hi : i + 6 ≤ N) (h : xCd 30 164 (.ref 9 :: [.int (σ.1 0 (i + 1)), .int (σ.1 0 (i + 2))]) σ (fun r τ => xCd 30 278 (.ref 66 :: [.int (σ.1 0 (i + 1)), .int (σ.1 0 (i + 2))]) τ (fun r' τ' => r' = r ∧ P τ'))) (k : ∀ τ, P τ → lwS N τ → xEX k_L_law 2 (xCd d) F 1427 [some (.ref 0), some (.ref 9), some (.ref 66), some (.int (Int32.ofNat i))] [] τ b) : xEX k_L_law 2 (xCd d) F 1148 [some (.ref 0), some (.ref 9), some (.ref 66), some (.int (Int32.ofNat i))] [] σ b := by
  have hi2 : i ≤ 3072 := by omega
  have e1 : Int32.toNatClampNeg (Int32.ofNat i + 1) = i + 1 := lw_c (j := 1) hi2 (by decide)
  have e2 : Int32.toNatClampNeg (Int32.ofNat i + 2) = i + 2 := lw_c (j := 2) hi2 (by decide)
  refine xgo bx_31 (xbifT (lw_0 hs) (xitT (lw_in (j := 1) hs hN hi (by decide)) (xbifT (lw_0 hs) (xitT (lw_in (j := 2) hs hN hi (by decide)) (xbifT (lw_9 hs) ?_)))))
  simp only [e1, e2]
  refine xuse (xCd_fr (σ0 := σ) 30 _ _ _ _ (lw_sm hs) h) hd ?_
  rintro r τ ⟨q, hsm, hrt⟩
  obtain ⟨v, rfl⟩ := hrt.1 (Or.inl rfl)
  have ht := sm_lw hs hsm
  refine xgo bm_31 (xbifT (lw_0 ht) (xitT (lw_in (j := 1) ht hN hi (by decide)) (xbifT (lw_0 ht) (xitT (lw_in (j := 2) ht hN hi (by decide)) (xbifT (lw_66 ht) ?_)))))
  simp only [e1, e2, hsm.1]
  refine xuse (xCd_fr (σ0 := τ) 30 _ _ _ _ (lw_sm ht) q) hd ?_
  rintro r' τ' ⟨⟨rfl, hP⟩, hsm2, _⟩
  refine xgo be_31 ?_
  rw [if_pos rfl]
  exact k τ' hP (sm_lw ht hsm2)
set_option maxRecDepth 100000 in
theorem bx_32 {C : xC} {Q : xQ} {K : xK} {σ : xH} {b : Nat × Nat} {a3 : Int32} : xrun k_L_law 2 C Q [] K 7 1181 [some (.ref 0), some (.ref 9), some (.ref 66), some (.int a3)] [] σ b = (bif xisi σ 0 then (if xin (a3 + 1) (xlen σ.2.2.2.2 0) then (bif xis σ 9 8 then C 165 [.ref 9, .int (σ.1 0 (Int32.toNatClampNeg (a3 + 1)))] σ (fun r τ => K 1190 [some (.ref 0), some (.ref 9), some (.ref 66), some (.int a3)] (r.toList ++ []) τ b) else False) else False) else False) := rfl
set_option maxRecDepth 100000 in
theorem bm_32 {C : xC} {Q : xQ} {K : xK} {σ : xH} {b : Nat × Nat} {a3 : Int32} {s0 : Int32} : xrun k_L_law 2 C Q [] K 7 1190 [some (.ref 0), some (.ref 9), some (.ref 66), some (.int a3)] [.int s0] σ b = (bif xisi σ 0 then (if xin (a3 + 1) (xlen σ.2.2.2.2 0) then (bif xis σ 66 9 then C 283 [.ref 66, .int (σ.1 0 (Int32.toNatClampNeg (a3 + 1)))] σ (fun r τ => K 1199 [some (.ref 0), some (.ref 9), some (.ref 66), some (.int a3)] (r.toList ++ [.int s0]) τ b) else False) else False) else False) := rfl
theorem be_32 {C : xC} {Q : xQ} {K : xK} {σ : xH} {b : Nat × Nat} {a3 : Int32} {s0 s1 : Int32} : xrun k_L_law 2 C Q [] K 1 1199 [some (.ref 0), some (.ref 9), some (.ref 66), some (.int a3)] [.int s1, .int s0] σ b = (if s0 = s1 then K 1427 [some (.ref 0), some (.ref 9), some (.ref 66), some (.int a3)] [] σ b else K 1202 [some (.ref 0), some (.ref 9), some (.ref 66), some (.int a3)] [] σ b) := rfl
theorem lc_32 {d N i : Nat} {F : xQ} {σ : xH} {b : Nat × Nat} {P : xH → Prop} (hd : 30 ≤ d) (hN : N ≤ 3072) (hs : lwS N σ) (hi : i + 6 ≤ N) (h : xCd 30 165 (.ref 9 :: [.int (σ.1 0 (i + 1))]) σ (fun r τ => xCd 30 283 (.ref 66 :: [.int (σ.1 0 (i + 1))]) τ (fun r' τ' => r' = r ∧ P τ'))) (k : ∀ τ, P τ → lwS N τ → xEX k_L_law 2 (xCd d) F 1427 [some (.ref 0), some (.ref 9), some (.ref 66), some (.int (Int32.ofNat i))] [] τ b) : xEX k_L_law 2 (xCd d) F 1181 [some (.ref 0), some (.ref 9), some (.ref 66), some (.int (Int32.ofNat i))] [] σ b := by
  have hi2 : i ≤ 3072 := by omega
  have e1 : Int32.toNatClampNeg (Int32.ofNat i + 1) = i + 1 := lw_c (j := 1) hi2 (by decide)
  refine xgo bx_32 (xbifT (lw_0 hs) (xitT (lw_in (j := 1) hs hN hi (by decide)) (xbifT (lw_9 hs) ?_)))
  simp only [e1]
  refine xuse (xCd_fr (σ0 := σ) 30 _ _ _ _ (lw_sm hs) h) hd ?_
  rintro r τ ⟨q, hsm, hrt⟩
  obtain ⟨v, rfl⟩ := hrt.1 (Or.inl rfl)
  have ht := sm_lw hs hsm
  refine xgo bm_32 (xbifT (lw_0 ht) (xitT (lw_in (j := 1) ht hN hi (by decide)) (xbifT (lw_66 ht) ?_)))
  simp only [e1, hsm.1]
  refine xuse (xCd_fr (σ0 := τ) 30 _ _ _ _ (lw_sm ht) q) hd ?_
  rintro r' τ' ⟨⟨rfl, hP⟩, hsm2, _⟩
  refine xgo be_32 ?_
  rw [if_pos rfl]
  exact k τ' hP (sm_lw ht hsm2)
set_option maxRecDepth 100000 in
theorem bx_33 {C : xC} {Q : xQ} {K : xK} {σ : xH} {b : Nat × Nat} {a3 : Int32} : xrun k_L_law 2 C Q [] K 7 1204 [some (.ref 0), some (.ref 9), some (.ref 66), some (.int a3)] [] σ b = (bif xisi σ 0 then (if xin (a3 + 1) (xlen σ.2.2.2.2 0) then (bif xis σ 9 8 then C 166 [.ref 9, .int (σ.1 0 (Int32.toNatClampNeg (a3 + 1)))] σ (fun r τ => K 1213 [some (.ref 0), some (.ref 9), some (.ref 66), some (.int a3)] (r.toList ++ []) τ b) else False) else False) else False) := rfl
set_option maxRecDepth 100000 in
theorem bm_33 {C : xC} {Q : xQ} {K : xK} {σ : xH} {b : Nat × Nat} {a3 : Int32} {s0 : Int32} : xrun k_L_law 2 C Q [] K 7 1213 [some (.ref 0), some (.ref 9), some (.ref 66), some (.int a3)] [.int s0] σ b = (bif xisi σ 0 then (if xin (a3 + 1) (xlen σ.2.2.2.2 0) then (bif xis σ 66 9 then C 284 [.ref 66, .int (σ.1 0 (Int32.toNatClampNeg (a3 + 1)))] σ (fun r τ => K 1222 [some (.ref 0), some (.ref 9), some (.ref 66), some (.int a3)] (r.toList ++ [.int s0]) τ b) else False) else False) else False) := rfl
theorem be_33 {C : xC} {Q : xQ} {K : xK} {σ : xH} {b : Nat × Nat} {a3 : Int32} {s0 s1 : Int32} : xrun k_L_law 2 C Q [] K 1 1222 [some (.ref 0), some (.ref 9), some (.ref 66), some (.int a3)] [.int s1, .int s0] σ b = (if s0 = s1 then K 1427 [some (.ref 0), some (.ref 9), some (.ref 66), some (.int a3)] [] σ b else K 1225 [some (.ref 0), some (.ref 9), some (.ref 66), some (.int a3)] [] σ b) := rfl
theorem lc_33 {d N i : Nat} {F : xQ} {σ : xH} {b : Nat × Nat} {P : xH → Prop} (hd : 30 ≤ d) (hN : N ≤ 3072) (hs : lwS N σ) (hi : i + 6 ≤ N) (h : xCd 30 166 (.ref 9 :: [.int (σ.1 0 (i + 1))]) σ (fun r τ => xCd 30 284 (.ref 66 :: [.int (σ.1 0 (i + 1))]) τ (fun r' τ' => r' = r ∧ P τ'))) (k : ∀ τ, P τ → lwS N τ → xEX k_L_law 2 (xCd d) F 1427 [some (.ref 0), some (.ref 9), some (.ref 66), some (.int (Int32.ofNat i))] [] τ b) : xEX k_L_law 2 (xCd d) F 1204 [some (.ref 0), some (.ref 9), some (.ref 66), some (.int (Int32.ofNat i))] [] σ b := by
  have hi2 : i ≤ 3072 := by omega
  have e1 : Int32.toNatClampNeg (Int32.ofNat i + 1) = i + 1 := lw_c (j := 1) hi2 (by decide)
  refine xgo bx_33 (xbifT (lw_0 hs) (xitT (lw_in (j := 1) hs hN hi (by decide)) (xbifT (lw_9 hs) ?_)))
  simp only [e1]
  refine xuse (xCd_fr (σ0 := σ) 30 _ _ _ _ (lw_sm hs) h) hd ?_
  rintro r τ ⟨q, hsm, hrt⟩
  obtain ⟨v, rfl⟩ := hrt.1 (Or.inl rfl)
  have ht := sm_lw hs hsm
  refine xgo bm_33 (xbifT (lw_0 ht) (xitT (lw_in (j := 1) ht hN hi (by decide)) (xbifT (lw_66 ht) ?_)))
  simp only [e1, hsm.1]
  refine xuse (xCd_fr (σ0 := τ) 30 _ _ _ _ (lw_sm ht) q) hd ?_
  rintro r' τ' ⟨⟨rfl, hP⟩, hsm2, _⟩
  refine xgo be_33 ?_
  rw [if_pos rfl]
  exact k τ' hP (sm_lw ht hsm2)
set_option maxRecDepth 100000 in
theorem bx_34 {C : xC} {Q : xQ} {K : xK} {σ : xH} {b : Nat × Nat} {a3 : Int32} : xrun k_L_law 2 C Q [] K 2 1227 [some (.ref 0), some (.ref 9), some (.ref 66), some (.int a3)] [] σ b = (bif xis σ 9 8 then C 167 [.ref 9] σ (fun r τ => K 1231 [some (.ref 0), some (.ref 9), some (.ref 66), some (.int a3)] (r.toList ++ []) τ b) else False) := rfl
set_option maxRecDepth 100000 in
theorem bm_34 {C : xC} {Q : xQ} {K : xK} {σ : xH} {b : Nat × Nat} {a3 : Int32} {s0 : Int32} : xrun k_L_law 2 C Q [] K 2 1231 [some (.ref 0), some (.ref 9), some (.ref 66), some (.int a3)] [.int s0] σ b = (bif xis σ 66 9 then C 285 [.ref 66] σ (fun r τ => K 1235 [some (.ref 0), some (.ref 9), some (.ref 66), some (.int a3)] (r.toList ++ [.int s0]) τ b) else False) := rfl
theorem be_34 {C : xC} {Q : xQ} {K : xK} {σ : xH} {b : Nat × Nat} {a3 : Int32} {s0 s1 : Int32} : xrun k_L_law 2 C Q [] K 1 1235 [some (.ref 0), some (.ref 9), some (.ref 66), some (.int a3)] [.int s1, .int s0] σ b = (if s0 = s1 then K 1427 [some (.ref 0), some (.ref 9), some (.ref 66), some (.int a3)] [] σ b else K 1238 [some (.ref 0), some (.ref 9), some (.ref 66), some (.int a3)] [] σ b) := rfl
theorem lc_34 {d N i : Nat} {F : xQ} {σ : xH} {b : Nat × Nat} {P : xH → Prop} (hd : 30 ≤ d) (hN : N ≤ 3072) (hs : lwS N σ) (hi : i + 6 ≤ N) (h : xCd 30 167 (.ref 9 :: []) σ (fun r τ => xCd 30 285 (.ref 66 :: []) τ (fun r' τ' => r' = r ∧ P τ'))) (k : ∀ τ, P τ → lwS N τ → xEX k_L_law 2 (xCd d) F 1427 [some (.ref 0), some (.ref 9), some (.ref 66), some (.int (Int32.ofNat i))] [] τ b) : xEX k_L_law 2 (xCd d) F 1227 [some (.ref 0), some (.ref 9), some (.ref 66), some (.int (Int32.ofNat i))] [] σ b := by
  have hi2 : i ≤ 3072 := by omega
  refine xgo bx_34 (xbifT (lw_9 hs) ?_)
  refine xuse (xCd_fr (σ0 := σ) 30 _ _ _ _ (lw_sm hs) h) hd ?_
  rintro r τ ⟨q, hsm, hrt⟩
  obtain ⟨v, rfl⟩ := hrt.1 (Or.inl rfl)
  have ht := sm_lw hs hsm
  refine xgo bm_34 (xbifT (lw_66 ht) ?_)
  refine xuse (xCd_fr (σ0 := τ) 30 _ _ _ _ (lw_sm ht) q) hd ?_
  rintro r' τ' ⟨⟨rfl, hP⟩, hsm2, _⟩
  refine xgo be_34 ?_
  rw [if_pos rfl]
  exact k τ' hP (sm_lw ht hsm2)
set_option maxRecDepth 100000 in
theorem bx_35 {C : xC} {Q : xQ} {K : xK} {σ : xH} {b : Nat × Nat} {a3 : Int32} : xrun k_L_law 2 C Q [] K 12 1240 [some (.ref 0), some (.ref 9), some (.ref 66), some (.int a3)] [] σ b = (bif xisi σ 0 then (if xin (a3 + 1) (xlen σ.2.2.2.2 0) then (bif xisi σ 0 then (if xin (a3 + 2) (xlen σ.2.2.2.2 0) then (bif xis σ 9 8 then C 168 [.ref 9, .int (σ.1 0 (Int32.toNatClampNeg (a3 + 1))), .int (σ.1 0 (Int32.toNatClampNeg (a3 + 2)))] σ (fun r τ => K 1254 [some (.ref 0), some (.ref 9), some (.ref 66), some (.int a3)] (r.toList ++ []) τ b) else False) else False) else False) else False) else False) := rfl
set_option maxRecDepth 100000 in
theorem bm_35 {C : xC} {Q : xQ} {K : xK} {σ : xH} {b : Nat × Nat} {a3 : Int32} {s0 : Int32} : xrun k_L_law 2 C Q [] K 12 1254 [some (.ref 0), some (.ref 9), some (.ref 66), some (.int a3)] [.int s0] σ b = (bif xisi σ 0 then (if xin (a3 + 1) (xlen σ.2.2.2.2 0) then (bif xisi σ 0 then (if xin (a3 + 2) (xlen σ.2.2.2.2 0) then (bif xis σ 66 9 then C 287 [.ref 66, .int (σ.1 0 (Int32.toNatClampNeg (a3 + 1))), .int (σ.1 0 (Int32.toNatClampNeg (a3 + 2)))] σ (fun r τ => K 1268 [some (.ref 0), some (.ref 9), some (.ref 66), some (.int a3)] (r.toList ++ [.int s0]) τ b) else False) else False) else False) else False) else False) := rfl
theorem be_35 {C : xC} {Q : xQ} {K : xK} {σ : xH} {b : Nat × Nat} {a3 : Int32} {s0 s1 : Int32} : xrun k_L_law 2 C Q [] K 1 1268 [some (.ref 0), some (.ref 9), some (.ref 66), some (.int a3)] [.int s1, .int s0] σ b = (if s0 = s1 then K 1427 [some (.ref 0), some (.ref 9), some (.ref 66), some (.int a3)] [] σ b else K 1271 [some (.ref 0), some (.ref 9), some (.ref 66), some (.int a3)] [] σ b) := rfl
theorem lc_35 {d N i : Nat} {F : xQ} {σ : xH} {b : Nat × Nat} {P : xH → Prop} (hd : 30 ≤ d) (hN : N ≤ 3072) (hs : lwS N σ) (hi : i + 6 ≤ N) (h : xCd 30 168 (.ref 9 :: [.int (σ.1 0 (i + 1)), .int (σ.1 0 (i + 2))]) σ (fun r τ => xCd 30 287 (.ref 66 :: [.int (σ.1 0 (i + 1)), .int (σ.1 0 (i + 2))]) τ (fun r' τ' => r' = r ∧ P τ'))) (k : ∀ τ, P τ → lwS N τ → xEX k_L_law 2 (xCd d) F 1427 [some (.ref 0), some (.ref 9), some (.ref 66), some (.int (Int32.ofNat i))] [] τ b) : xEX k_L_law 2 (xCd d) F 1240 [some (.ref 0), some (.ref 9), some (.ref 66), some (.int (Int32.ofNat i))] [] σ b := by
  have hi2 : i ≤ 3072 := by omega
  have e1 : Int32.toNatClampNeg (Int32.ofNat i + 1) = i + 1 := lw_c (j := 1) hi2 (by decide)
  have e2 : Int32.toNatClampNeg (Int32.ofNat i + 2) = i + 2 := lw_c (j := 2) hi2 (by decide)
  refine xgo bx_35 (xbifT (lw_0 hs) (xitT (lw_in (j := 1) hs hN hi (by decide)) (xbifT (lw_0 hs) (xitT (lw_in (j := 2) hs hN hi (by decide)) (xbifT (lw_9 hs) ?_)))))
  simp only [e1, e2]
  refine xuse (xCd_fr (σ0 := σ) 30 _ _ _ _ (lw_sm hs) h) hd ?_
  rintro r τ ⟨q, hsm, hrt⟩
  obtain ⟨v, rfl⟩ := hrt.1 (Or.inl rfl)
  have ht := sm_lw hs hsm
  refine xgo bm_35 (xbifT (lw_0 ht) (xitT (lw_in (j := 1) ht hN hi (by decide)) (xbifT (lw_0 ht) (xitT (lw_in (j := 2) ht hN hi (by decide)) (xbifT (lw_66 ht) ?_)))))
  simp only [e1, e2, hsm.1]
  refine xuse (xCd_fr (σ0 := τ) 30 _ _ _ _ (lw_sm ht) q) hd ?_
  rintro r' τ' ⟨⟨rfl, hP⟩, hsm2, _⟩
  refine xgo be_35 ?_
  rw [if_pos rfl]
  exact k τ' hP (sm_lw ht hsm2)
set_option maxRecDepth 100000 in
theorem bx_36 {C : xC} {Q : xQ} {K : xK} {σ : xH} {b : Nat × Nat} {a3 : Int32} : xrun k_L_law 2 C Q [] K 7 1273 [some (.ref 0), some (.ref 9), some (.ref 66), some (.int a3)] [] σ b = (bif xisi σ 0 then (if xin (a3 + 1) (xlen σ.2.2.2.2 0) then (bif xis σ 9 8 then C 169 [.ref 9, .int (σ.1 0 (Int32.toNatClampNeg (a3 + 1)))] σ (fun r τ => K 1282 [some (.ref 0), some (.ref 9), some (.ref 66), some (.int a3)] (r.toList ++ []) τ b) else False) else False) else False) := rfl
set_option maxRecDepth 100000 in
theorem bm_36 {C : xC} {Q : xQ} {K : xK} {σ : xH} {b : Nat × Nat} {a3 : Int32} {s0 : Int32} : xrun k_L_law 2 C Q [] K 7 1282 [some (.ref 0), some (.ref 9), some (.ref 66), some (.int a3)] [.int s0] σ b = (bif xisi σ 0 then (if xin (a3 + 1) (xlen σ.2.2.2.2 0) then (bif xis σ 66 9 then C 288 [.ref 66, .int (σ.1 0 (Int32.toNatClampNeg (a3 + 1)))] σ (fun r τ => K 1291 [some (.ref 0), some (.ref 9), some (.ref 66), some (.int a3)] (r.toList ++ [.int s0]) τ b) else False) else False) else False) := rfl
theorem be_36 {C : xC} {Q : xQ} {K : xK} {σ : xH} {b : Nat × Nat} {a3 : Int32} {s0 s1 : Int32} : xrun k_L_law 2 C Q [] K 1 1291 [some (.ref 0), some (.ref 9), some (.ref 66), some (.int a3)] [.int s1, .int s0] σ b = (if s0 = s1 then K 1427 [some (.ref 0), some (.ref 9), some (.ref 66), some (.int a3)] [] σ b else K 1294 [some (.ref 0), some (.ref 9), some (.ref 66), some (.int a3)] [] σ b) := rfl
theorem lc_36 {d N i : Nat} {F : xQ} {σ : xH} {b : Nat × Nat} {P : xH → Prop} (hd : 30 ≤ d) (hN : N ≤ 3072) (hs : lwS N σ) (hi : i + 6 ≤ N) (h : xCd 30 169 (.ref 9 :: [.int (σ.1 0 (i + 1))]) σ (fun r τ => xCd 30 288 (.ref 66 :: [.int (σ.1 0 (i + 1))]) τ (fun r' τ' => r' = r ∧ P τ'))) (k : ∀ τ, P τ → lwS N τ → xEX k_L_law 2 (xCd d) F 1427 [some (.ref 0), some (.ref 9), some (.ref 66), some (.int (Int32.ofNat i))] [] τ b) : xEX k_L_law 2 (xCd d) F 1273 [some (.ref 0), some (.ref 9), some (.ref 66), some (.int (Int32.ofNat i))] [] σ b := by
  have hi2 : i ≤ 3072 := by omega
  have e1 : Int32.toNatClampNeg (Int32.ofNat i + 1) = i + 1 := lw_c (j := 1) hi2 (by decide)
  refine xgo bx_36 (xbifT (lw_0 hs) (xitT (lw_in (j := 1) hs hN hi (by decide)) (xbifT (lw_9 hs) ?_)))
  simp only [e1]
  refine xuse (xCd_fr (σ0 := σ) 30 _ _ _ _ (lw_sm hs) h) hd ?_
  rintro r τ ⟨q, hsm, hrt⟩
  obtain ⟨v, rfl⟩ := hrt.1 (Or.inl rfl)
  have ht := sm_lw hs hsm
  refine xgo bm_36 (xbifT (lw_0 ht) (xitT (lw_in (j := 1) ht hN hi (by decide)) (xbifT (lw_66 ht) ?_)))
  simp only [e1, hsm.1]
  refine xuse (xCd_fr (σ0 := τ) 30 _ _ _ _ (lw_sm ht) q) hd ?_
  rintro r' τ' ⟨⟨rfl, hP⟩, hsm2, _⟩
  refine xgo be_36 ?_
  rw [if_pos rfl]
  exact k τ' hP (sm_lw ht hsm2)
set_option maxRecDepth 100000 in
theorem bx_37 {C : xC} {Q : xQ} {K : xK} {σ : xH} {b : Nat × Nat} {a3 : Int32} : xrun k_L_law 2 C Q [] K 2 1296 [some (.ref 0), some (.ref 9), some (.ref 66), some (.int a3)] [] σ b = (bif xis σ 9 8 then C 170 [.ref 9] σ (fun r τ => K 1300 [some (.ref 0), some (.ref 9), some (.ref 66), some (.int a3)] (r.toList ++ []) τ b) else False) := rfl
set_option maxRecDepth 100000 in
theorem bm_37 {C : xC} {Q : xQ} {K : xK} {σ : xH} {b : Nat × Nat} {a3 : Int32} {s0 : Int32} : xrun k_L_law 2 C Q [] K 2 1300 [some (.ref 0), some (.ref 9), some (.ref 66), some (.int a3)] [.int s0] σ b = (bif xis σ 66 9 then C 290 [.ref 66] σ (fun r τ => K 1304 [some (.ref 0), some (.ref 9), some (.ref 66), some (.int a3)] (r.toList ++ [.int s0]) τ b) else False) := rfl
theorem be_37 {C : xC} {Q : xQ} {K : xK} {σ : xH} {b : Nat × Nat} {a3 : Int32} {s0 s1 : Int32} : xrun k_L_law 2 C Q [] K 1 1304 [some (.ref 0), some (.ref 9), some (.ref 66), some (.int a3)] [.int s1, .int s0] σ b = (if s0 = s1 then K 1427 [some (.ref 0), some (.ref 9), some (.ref 66), some (.int a3)] [] σ b else K 1307 [some (.ref 0), some (.ref 9), some (.ref 66), some (.int a3)] [] σ b) := rfl
theorem lc_37 {d N i : Nat} {F : xQ} {σ : xH} {b : Nat × Nat} {P : xH → Prop} (hd : 30 ≤ d) (hN : N ≤ 3072) (hs : lwS N σ) (hi : i + 6 ≤ N) (h : xCd 30 170 (.ref 9 :: []) σ (fun r τ => xCd 30 290 (.ref 66 :: []) τ (fun r' τ' => r' = r ∧ P τ'))) (k : ∀ τ, P τ → lwS N τ → xEX k_L_law 2 (xCd d) F 1427 [some (.ref 0), some (.ref 9), some (.ref 66), some (.int (Int32.ofNat i))] [] τ b) : xEX k_L_law 2 (xCd d) F 1296 [some (.ref 0), some (.ref 9), some (.ref 66), some (.int (Int32.ofNat i))] [] σ b := by
  have hi2 : i ≤ 3072 := by omega
  refine xgo bx_37 (xbifT (lw_9 hs) ?_)
  refine xuse (xCd_fr (σ0 := σ) 30 _ _ _ _ (lw_sm hs) h) hd ?_
  rintro r τ ⟨q, hsm, hrt⟩
  obtain ⟨v, rfl⟩ := hrt.1 (Or.inl rfl)
  have ht := sm_lw hs hsm
  refine xgo bm_37 (xbifT (lw_66 ht) ?_)
  refine xuse (xCd_fr (σ0 := τ) 30 _ _ _ _ (lw_sm ht) q) hd ?_
  rintro r' τ' ⟨⟨rfl, hP⟩, hsm2, _⟩
  refine xgo be_37 ?_
  rw [if_pos rfl]
  exact k τ' hP (sm_lw ht hsm2)
set_option maxRecDepth 100000 in
theorem bx_38 {C : xC} {Q : xQ} {K : xK} {σ : xH} {b : Nat × Nat} {a3 : Int32} : xrun k_L_law 2 C Q [] K 7 1309 [some (.ref 0), some (.ref 9), some (.ref 66), some (.int a3)] [] σ b = (bif xisi σ 0 then (if xin (a3 + 1) (xlen σ.2.2.2.2 0) then (bif xis σ 9 8 then C 171 [.ref 9, .int (σ.1 0 (Int32.toNatClampNeg (a3 + 1)))] σ (fun r τ => K 1318 [some (.ref 0), some (.ref 9), some (.ref 66), some (.int a3)] (r.toList ++ []) τ b) else False) else False) else False) := rfl
set_option maxRecDepth 100000 in
theorem bm_38 {C : xC} {Q : xQ} {K : xK} {σ : xH} {b : Nat × Nat} {a3 : Int32} {s0 : Int32} : xrun k_L_law 2 C Q [] K 7 1318 [some (.ref 0), some (.ref 9), some (.ref 66), some (.int a3)] [.int s0] σ b = (bif xisi σ 0 then (if xin (a3 + 1) (xlen σ.2.2.2.2 0) then (bif xis σ 66 9 then C 291 [.ref 66, .int (σ.1 0 (Int32.toNatClampNeg (a3 + 1)))] σ (fun r τ => K 1327 [some (.ref 0), some (.ref 9), some (.ref 66), some (.int a3)] (r.toList ++ [.int s0]) τ b) else False) else False) else False) := rfl
theorem be_38 {C : xC} {Q : xQ} {K : xK} {σ : xH} {b : Nat × Nat} {a3 : Int32} {s0 s1 : Int32} : xrun k_L_law 2 C Q [] K 1 1327 [some (.ref 0), some (.ref 9), some (.ref 66), some (.int a3)] [.int s1, .int s0] σ b = (if s0 = s1 then K 1427 [some (.ref 0), some (.ref 9), some (.ref 66), some (.int a3)] [] σ b else K 1330 [some (.ref 0), some (.ref 9), some (.ref 66), some (.int a3)] [] σ b) := rfl
theorem lc_38 {d N i : Nat} {F : xQ} {σ : xH} {b : Nat × Nat} {P : xH → Prop} (hd : 30 ≤ d) (hN : N ≤ 3072) (hs : lwS N σ) (hi : i + 6 ≤ N) (h : xCd 30 171 (.ref 9 :: [.int (σ.1 0 (i + 1))]) σ (fun r τ => xCd 30 291 (.ref 66 :: [.int (σ.1 0 (i + 1))]) τ (fun r' τ' => r' = r ∧ P τ'))) (k : ∀ τ, P τ → lwS N τ → xEX k_L_law 2 (xCd d) F 1427 [some (.ref 0), some (.ref 9), some (.ref 66), some (.int (Int32.ofNat i))] [] τ b) : xEX k_L_law 2 (xCd d) F 1309 [some (.ref 0), some (.ref 9), some (.ref 66), some (.int (Int32.ofNat i))] [] σ b := by
  have hi2 : i ≤ 3072 := by omega
  have e1 : Int32.toNatClampNeg (Int32.ofNat i + 1) = i + 1 := lw_c (j := 1) hi2 (by decide)
  refine xgo bx_38 (xbifT (lw_0 hs) (xitT (lw_in (j := 1) hs hN hi (by decide)) (xbifT (lw_9 hs) ?_)))
  simp only [e1]
  refine xuse (xCd_fr (σ0 := σ) 30 _ _ _ _ (lw_sm hs) h) hd ?_
  rintro r τ ⟨q, hsm, hrt⟩
  obtain ⟨v, rfl⟩ := hrt.1 (Or.inl rfl)
  have ht := sm_lw hs hsm
  refine xgo bm_38 (xbifT (lw_0 ht) (xitT (lw_in (j := 1) ht hN hi (by decide)) (xbifT (lw_66 ht) ?_)))
  simp only [e1, hsm.1]
  refine xuse (xCd_fr (σ0 := τ) 30 _ _ _ _ (lw_sm ht) q) hd ?_
  rintro r' τ' ⟨⟨rfl, hP⟩, hsm2, _⟩
  refine xgo be_38 ?_
  rw [if_pos rfl]
  exact k τ' hP (sm_lw ht hsm2)
set_option maxRecDepth 100000 in
theorem bx_39 {C : xC} {Q : xQ} {K : xK} {σ : xH} {b : Nat × Nat} {a3 : Int32} : xrun k_L_law 2 C Q [] K 7 1332 [some (.ref 0), some (.ref 9), some (.ref 66), some (.int a3)] [] σ b = (bif xisi σ 0 then (if xin (a3 + 1) (xlen σ.2.2.2.2 0) then (bif xis σ 9 8 then C 172 [.ref 9, .int (σ.1 0 (Int32.toNatClampNeg (a3 + 1)))] σ (fun r τ => K 1341 [some (.ref 0), some (.ref 9), some (.ref 66), some (.int a3)] (r.toList ++ []) τ b) else False) else False) else False) := rfl
set_option maxRecDepth 100000 in
theorem bm_39 {C : xC} {Q : xQ} {K : xK} {σ : xH} {b : Nat × Nat} {a3 : Int32} {s0 : Int32} : xrun k_L_law 2 C Q [] K 7 1341 [some (.ref 0), some (.ref 9), some (.ref 66), some (.int a3)] [.int s0] σ b = (bif xisi σ 0 then (if xin (a3 + 1) (xlen σ.2.2.2.2 0) then (bif xis σ 66 9 then C 292 [.ref 66, .int (σ.1 0 (Int32.toNatClampNeg (a3 + 1)))] σ (fun r τ => K 1350 [some (.ref 0), some (.ref 9), some (.ref 66), some (.int a3)] (r.toList ++ [.int s0]) τ b) else False) else False) else False) := rfl
theorem be_39 {C : xC} {Q : xQ} {K : xK} {σ : xH} {b : Nat × Nat} {a3 : Int32} {s0 s1 : Int32} : xrun k_L_law 2 C Q [] K 1 1350 [some (.ref 0), some (.ref 9), some (.ref 66), some (.int a3)] [.int s1, .int s0] σ b = (if s0 = s1 then K 1427 [some (.ref 0), some (.ref 9), some (.ref 66), some (.int a3)] [] σ b else K 1353 [some (.ref 0), some (.ref 9), some (.ref 66), some (.int a3)] [] σ b) := rfl
theorem lc_39 {d N i : Nat} {F : xQ} {σ : xH} {b : Nat × Nat} {P : xH → Prop} (hd : 30 ≤ d) (hN : N ≤ 3072) (hs : lwS N σ) (hi : i + 6 ≤ N) (h : xCd 30 172 (.ref 9 :: [.int (σ.1 0 (i + 1))]) σ (fun r τ => xCd 30 292 (.ref 66 :: [.int (σ.1 0 (i + 1))]) τ (fun r' τ' => r' = r ∧ P τ'))) (k : ∀ τ, P τ → lwS N τ → xEX k_L_law 2 (xCd d) F 1427 [some (.ref 0), some (.ref 9), some (.ref 66), some (.int (Int32.ofNat i))] [] τ b) : xEX k_L_law 2 (xCd d) F 1332 [some (.ref 0), some (.ref 9), some (.ref 66), some (.int (Int32.ofNat i))] [] σ b := by
  have hi2 : i ≤ 3072 := by omega
  have e1 : Int32.toNatClampNeg (Int32.ofNat i + 1) = i + 1 := lw_c (j := 1) hi2 (by decide)
  refine xgo bx_39 (xbifT (lw_0 hs) (xitT (lw_in (j := 1) hs hN hi (by decide)) (xbifT (lw_9 hs) ?_)))
  simp only [e1]
  refine xuse (xCd_fr (σ0 := σ) 30 _ _ _ _ (lw_sm hs) h) hd ?_
  rintro r τ ⟨q, hsm, hrt⟩
  obtain ⟨v, rfl⟩ := hrt.1 (Or.inl rfl)
  have ht := sm_lw hs hsm
  refine xgo bm_39 (xbifT (lw_0 ht) (xitT (lw_in (j := 1) ht hN hi (by decide)) (xbifT (lw_66 ht) ?_)))
  simp only [e1, hsm.1]
  refine xuse (xCd_fr (σ0 := τ) 30 _ _ _ _ (lw_sm ht) q) hd ?_
  rintro r' τ' ⟨⟨rfl, hP⟩, hsm2, _⟩
  refine xgo be_39 ?_
  rw [if_pos rfl]
  exact k τ' hP (sm_lw ht hsm2)
set_option maxRecDepth 100000 in
theorem bx_40 {C : xC} {Q : xQ} {K : xK} {σ : xH} {b : Nat × Nat} {a3 : Int32} : xrun k_L_law 2 C Q [] K 7 1355 [some (.ref 0), some (.ref 9), some (.ref 66), some (.int a3)] [] σ b = (bif xisi σ 0 then (if xin (a3 + 1) (xlen σ.2.2.2.2 0) then (bif xis σ 9 8 then C 173 [.ref 9, .int (σ.1 0 (Int32.toNatClampNeg (a3 + 1)))] σ (fun r τ => K 1364 [some (.ref 0), some (.ref 9), some (.ref 66), some (.int a3)] (r.toList ++ []) τ b) else False) else False) else False) := rfl
set_option maxRecDepth 100000 in
theorem bm_40 {C : xC} {Q : xQ} {K : xK} {σ : xH} {b : Nat × Nat} {a3 : Int32} {s0 : Int32} : xrun k_L_law 2 C Q [] K 7 1364 [some (.ref 0), some (.ref 9), some (.ref 66), some (.int a3)] [.int s0] σ b = (bif xisi σ 0 then (if xin (a3 + 1) (xlen σ.2.2.2.2 0) then (bif xis σ 66 9 then C 293 [.ref 66, .int (σ.1 0 (Int32.toNatClampNeg (a3 + 1)))] σ (fun r τ => K 1373 [some (.ref 0), some (.ref 9), some (.ref 66), some (.int a3)] (r.toList ++ [.int s0]) τ b) else False) else False) else False) := rfl
theorem be_40 {C : xC} {Q : xQ} {K : xK} {σ : xH} {b : Nat × Nat} {a3 : Int32} {s0 s1 : Int32} : xrun k_L_law 2 C Q [] K 1 1373 [some (.ref 0), some (.ref 9), some (.ref 66), some (.int a3)] [.int s1, .int s0] σ b = (if s0 = s1 then K 1427 [some (.ref 0), some (.ref 9), some (.ref 66), some (.int a3)] [] σ b else K 1376 [some (.ref 0), some (.ref 9), some (.ref 66), some (.int a3)] [] σ b) := rfl
theorem lc_40 {d N i : Nat} {F : xQ} {σ : xH} {b : Nat × Nat} {P : xH → Prop} (hd : 30 ≤ d) (hN : N ≤ 3072) (hs : lwS N σ) (hi : i + 6 ≤ N) (h : xCd 30 173 (.ref 9 :: [.int (σ.1 0 (i + 1))]) σ (fun r τ => xCd 30 293 (.ref 66 :: [.int (σ.1 0 (i + 1))]) τ (fun r' τ' => r' = r ∧ P τ'))) (k : ∀ τ, P τ → lwS N τ → xEX k_L_law 2 (xCd d) F 1427 [some (.ref 0), some (.ref 9), some (.ref 66), some (.int (Int32.ofNat i))] [] τ b) : xEX k_L_law 2 (xCd d) F 1355 [some (.ref 0), some (.ref 9), some (.ref 66), some (.int (Int32.ofNat i))] [] σ b := by
  have hi2 : i ≤ 3072 := by omega
  have e1 : Int32.toNatClampNeg (Int32.ofNat i + 1) = i + 1 := lw_c (j := 1) hi2 (by decide)
  refine xgo bx_40 (xbifT (lw_0 hs) (xitT (lw_in (j := 1) hs hN hi (by decide)) (xbifT (lw_9 hs) ?_)))
  simp only [e1]
  refine xuse (xCd_fr (σ0 := σ) 30 _ _ _ _ (lw_sm hs) h) hd ?_
  rintro r τ ⟨q, hsm, hrt⟩
  obtain ⟨v, rfl⟩ := hrt.1 (Or.inl rfl)
  have ht := sm_lw hs hsm
  refine xgo bm_40 (xbifT (lw_0 ht) (xitT (lw_in (j := 1) ht hN hi (by decide)) (xbifT (lw_66 ht) ?_)))
  simp only [e1, hsm.1]
  refine xuse (xCd_fr (σ0 := τ) 30 _ _ _ _ (lw_sm ht) q) hd ?_
  rintro r' τ' ⟨⟨rfl, hP⟩, hsm2, _⟩
  refine xgo be_40 ?_
  rw [if_pos rfl]
  exact k τ' hP (sm_lw ht hsm2)
set_option maxRecDepth 100000 in
theorem bx_41 {C : xC} {Q : xQ} {K : xK} {σ : xH} {b : Nat × Nat} {a3 : Int32} : xrun k_L_law 2 C Q [] K 2 1378 [some (.ref 0), some (.ref 9), some (.ref 66), some (.int a3)] [] σ b = (bif xis σ 9 8 then C 174 [.ref 9] σ (fun r τ => K 1382 [some (.ref 0), some (.ref 9), some (.ref 66), some (.int a3)] (r.toList ++ []) τ b) else False) := rfl
set_option maxRecDepth 100000 in
theorem bm_41 {C : xC} {Q : xQ} {K : xK} {σ : xH} {b : Nat × Nat} {a3 : Int32} {s0 : Int32} : xrun k_L_law 2 C Q [] K 2 1382 [some (.ref 0), some (.ref 9), some (.ref 66), some (.int a3)] [.int s0] σ b = (bif xis σ 66 9 then (bif Nat.ble 46 b.1 && Nat.ble 5872 b.2 then C 296 [.ref 66] σ (fun r τ => K 1386 [some (.ref 0), some (.ref 9), some (.ref 66), some (.int a3)] (r.toList ++ [.int s0]) τ (b.1 - 46, b.2 - 5872)) else False) else False) := rfl
theorem be_41 {C : xC} {Q : xQ} {K : xK} {σ : xH} {b : Nat × Nat} {a3 : Int32} {s0 s1 : Int32} : xrun k_L_law 2 C Q [] K 1 1386 [some (.ref 0), some (.ref 9), some (.ref 66), some (.int a3)] [.int s1, .int s0] σ b = (if s0 = s1 then K 1427 [some (.ref 0), some (.ref 9), some (.ref 66), some (.int a3)] [] σ b else K 1389 [some (.ref 0), some (.ref 9), some (.ref 66), some (.int a3)] [] σ b) := rfl
theorem lc_41 {d N i : Nat} {F : xQ} {σ : xH} {b : Nat × Nat} {P : xH → Prop} (hd : 30 ≤ d) (hN : N ≤ 3072) (hs : lwS N σ) (hi : i + 6 ≤ N) (hb : 46 ≤ b.1 ∧ 5872 ≤ b.2) (h : xCd 30 174 (.ref 9 :: []) σ (fun r τ => xCd 30 296 (.ref 66 :: []) τ (fun r' τ' => r' = r ∧ P τ'))) (k : ∀ τ, P τ → lwS N τ → xEX k_L_law 2 (xCd d) F 1427 [some (.ref 0), some (.ref 9), some (.ref 66), some (.int (Int32.ofNat i))] [] τ (b.1 - 46, b.2 - 5872)) : xEX k_L_law 2 (xCd d) F 1378 [some (.ref 0), some (.ref 9), some (.ref 66), some (.int (Int32.ofNat i))] [] σ b := by
  have hi2 : i ≤ 3072 := by omega
  refine xgo bx_41 (xbifT (lw_9 hs) ?_)
  refine xuse (xCd_fr (σ0 := σ) 30 _ _ _ _ (lw_sm hs) h) hd ?_
  rintro r τ ⟨q, hsm, hrt⟩
  obtain ⟨v, rfl⟩ := hrt.1 (Or.inl rfl)
  have ht := sm_lw hs hsm
  refine xgo bm_41 (xbifT (lw_66 ht) ?_)
  refine xbifT (show (Nat.ble 46 b.1 && Nat.ble 5872 b.2) = true from (Bool.and_eq_true _ _).mpr ⟨Nat.ble_eq_true_of_le hb.1, Nat.ble_eq_true_of_le hb.2⟩) ?_
  refine xuse (xCd_fr (σ0 := τ) 30 _ _ _ _ (lw_sm ht) q) hd ?_
  rintro r' τ' ⟨⟨rfl, hP⟩, hsm2, _⟩
  refine xgo be_41 ?_
  rw [if_pos rfl]
  exact k τ' hP (sm_lw ht hsm2)
set_option maxRecDepth 100000 in
theorem bx_42 {C : xC} {Q : xQ} {K : xK} {σ : xH} {b : Nat × Nat} {a3 : Int32} : xrun k_L_law 2 C Q [] K 2 1391 [some (.ref 0), some (.ref 9), some (.ref 66), some (.int a3)] [] σ b = (bif xis σ 9 8 then C 175 [.ref 9] σ (fun r τ => K 1395 [some (.ref 0), some (.ref 9), some (.ref 66), some (.int a3)] (r.toList ++ []) τ b) else False) := rfl
set_option maxRecDepth 100000 in
theorem bm_42 {C : xC} {Q : xQ} {K : xK} {σ : xH} {b : Nat × Nat} {a3 : Int32} {s0 : Int32} : xrun k_L_law 2 C Q [] K 2 1395 [some (.ref 0), some (.ref 9), some (.ref 66), some (.int a3)] [.int s0] σ b = (bif xis σ 66 9 then C 297 [.ref 66] σ (fun r τ => K 1399 [some (.ref 0), some (.ref 9), some (.ref 66), some (.int a3)] (r.toList ++ [.int s0]) τ b) else False) := rfl
theorem be_42 {C : xC} {Q : xQ} {K : xK} {σ : xH} {b : Nat × Nat} {a3 : Int32} {s0 s1 : Int32} : xrun k_L_law 2 C Q [] K 1 1399 [some (.ref 0), some (.ref 9), some (.ref 66), some (.int a3)] [.int s1, .int s0] σ b = (if s0 = s1 then K 1427 [some (.ref 0), some (.ref 9), some (.ref 66), some (.int a3)] [] σ b else K 1402 [some (.ref 0), some (.ref 9), some (.ref 66), some (.int a3)] [] σ b) := rfl
theorem lc_42 {d N i : Nat} {F : xQ} {σ : xH} {b : Nat × Nat} {P : xH → Prop} (hd : 30 ≤ d) (hN : N ≤ 3072) (hs : lwS N σ) (hi : i + 6 ≤ N) (h : xCd 30 175 (.ref 9 :: []) σ (fun r τ => xCd 30 297 (.ref 66 :: []) τ (fun r' τ' => r' = r ∧ P τ'))) (k : ∀ τ, P τ → lwS N τ → xEX k_L_law 2 (xCd d) F 1427 [some (.ref 0), some (.ref 9), some (.ref 66), some (.int (Int32.ofNat i))] [] τ b) : xEX k_L_law 2 (xCd d) F 1391 [some (.ref 0), some (.ref 9), some (.ref 66), some (.int (Int32.ofNat i))] [] σ b := by
  have hi2 : i ≤ 3072 := by omega
  refine xgo bx_42 (xbifT (lw_9 hs) ?_)
  refine xuse (xCd_fr (σ0 := σ) 30 _ _ _ _ (lw_sm hs) h) hd ?_
  rintro r τ ⟨q, hsm, hrt⟩
  obtain ⟨v, rfl⟩ := hrt.1 (Or.inl rfl)
  have ht := sm_lw hs hsm
  refine xgo bm_42 (xbifT (lw_66 ht) ?_)
  refine xuse (xCd_fr (σ0 := τ) 30 _ _ _ _ (lw_sm ht) q) hd ?_
  rintro r' τ' ⟨⟨rfl, hP⟩, hsm2, _⟩
  refine xgo be_42 ?_
  rw [if_pos rfl]
  exact k τ' hP (sm_lw ht hsm2)
set_option maxRecDepth 100000 in
theorem bx_43 {C : xC} {Q : xQ} {K : xK} {σ : xH} {b : Nat × Nat} {a3 : Int32} : xrun k_L_law 2 C Q [] K 7 1404 [some (.ref 0), some (.ref 9), some (.ref 66), some (.int a3)] [] σ b = (bif xisi σ 0 then (if xin (a3 + 1) (xlen σ.2.2.2.2 0) then (bif xis σ 9 8 then C 176 [.ref 9, .int (σ.1 0 (Int32.toNatClampNeg (a3 + 1)))] σ (fun r τ => K 1413 [some (.ref 0), some (.ref 9), some (.ref 66), some (.int a3)] (r.toList ++ []) τ b) else False) else False) else False) := rfl
set_option maxRecDepth 100000 in
theorem bm_43 {C : xC} {Q : xQ} {K : xK} {σ : xH} {b : Nat × Nat} {a3 : Int32} {s0 : Int32} : xrun k_L_law 2 C Q [] K 7 1413 [some (.ref 0), some (.ref 9), some (.ref 66), some (.int a3)] [.int s0] σ b = (bif xisi σ 0 then (if xin (a3 + 1) (xlen σ.2.2.2.2 0) then (bif xis σ 66 9 then C 298 [.ref 66, .int (σ.1 0 (Int32.toNatClampNeg (a3 + 1)))] σ (fun r τ => K 1422 [some (.ref 0), some (.ref 9), some (.ref 66), some (.int a3)] (r.toList ++ [.int s0]) τ b) else False) else False) else False) := rfl
theorem be_43 {C : xC} {Q : xQ} {K : xK} {σ : xH} {b : Nat × Nat} {a3 : Int32} {s0 s1 : Int32} : xrun k_L_law 2 C Q [] K 1 1422 [some (.ref 0), some (.ref 9), some (.ref 66), some (.int a3)] [.int s1, .int s0] σ b = (if s0 = s1 then K 1427 [some (.ref 0), some (.ref 9), some (.ref 66), some (.int a3)] [] σ b else K 1425 [some (.ref 0), some (.ref 9), some (.ref 66), some (.int a3)] [] σ b) := rfl
theorem lc_43 {d N i : Nat} {F : xQ} {σ : xH} {b : Nat × Nat} {P : xH → Prop} (hd : 30 ≤ d) (hN : N ≤ 3072) (hs : lwS N σ) (hi : i + 6 ≤ N) (h : xCd 30 176 (.ref 9 :: [.int (σ.1 0 (i + 1))]) σ (fun r τ => xCd 30 298 (.ref 66 :: [.int (σ.1 0 (i + 1))]) τ (fun r' τ' => r' = r ∧ P τ'))) (k : ∀ τ, P τ → lwS N τ → xEX k_L_law 2 (xCd d) F 1427 [some (.ref 0), some (.ref 9), some (.ref 66), some (.int (Int32.ofNat i))] [] τ b) : xEX k_L_law 2 (xCd d) F 1404 [some (.ref 0), some (.ref 9), some (.ref 66), some (.int (Int32.ofNat i))] [] σ b := by
  have hi2 : i ≤ 3072 := by omega
  have e1 : Int32.toNatClampNeg (Int32.ofNat i + 1) = i + 1 := lw_c (j := 1) hi2 (by decide)
  refine xgo bx_43 (xbifT (lw_0 hs) (xitT (lw_in (j := 1) hs hN hi (by decide)) (xbifT (lw_9 hs) ?_)))
  simp only [e1]
  refine xuse (xCd_fr (σ0 := σ) 30 _ _ _ _ (lw_sm hs) h) hd ?_
  rintro r τ ⟨q, hsm, hrt⟩
  obtain ⟨v, rfl⟩ := hrt.1 (Or.inl rfl)
  have ht := sm_lw hs hsm
  refine xgo bm_43 (xbifT (lw_0 ht) (xitT (lw_in (j := 1) ht hN hi (by decide)) (xbifT (lw_66 ht) ?_)))
  simp only [e1, hsm.1]
  refine xuse (xCd_fr (σ0 := τ) 30 _ _ _ _ (lw_sm ht) q) hd ?_
  rintro r' τ' ⟨⟨rfl, hP⟩, hsm2, _⟩
  refine xgo be_43 ?_
  rw [if_pos rfl]
  exact k τ' hP (sm_lw ht hsm2)
set_option maxRecDepth 100000 in
theorem bl_head {C : xC} {Q : xQ} {K : xK} {σ : xH} {b : Nat × Nat} {a3 : Int32} : xrun k_L_law 2 C Q [] K 6 18 [some (.ref 0), some (.ref 9), some (.ref 66), some (.int a3)] [] σ b = (bif xalive σ.2.2.2.1 0 && Nat.ble 20 (xkind 0) && !(Nat.beq (xkind 0) 24) then (if (Int32.ofNat (xlen σ.2.2.2.2 0)) - 6 < a3 then K 1433 [some (.ref 0), some (.ref 9), some (.ref 66), some (.int a3)] [] σ b else K 27 [some (.ref 0), some (.ref 9), some (.ref 66), some (.int a3)] [] σ b) else False) := rfl
theorem bl_read {C : xC} {Q : xQ} {K : xK} {σ : xH} {b : Nat × Nat} {a3 : Int32} : xrun k_L_law 2 C Q [] K 5 27 [some (.ref 0), some (.ref 9), some (.ref 66), some (.int a3)] [] σ b = (bif xisi σ 0 then (if xin a3 (xlen σ.2.2.2.2 0) then K 33 [some (.ref 0), some (.ref 9), some (.ref 66), some (.int a3)] [.int (σ.1 0 (Int32.toNatClampNeg a3) &&& 63)] σ b else False) else False) := rfl
theorem bl_end {C : xC} {Q : xQ} {K : xK} {σ : xH} {b : Nat × Nat} {a3 : Int32} : xrun k_L_law 2 C Q [] K 2 1433 [some (.ref 0), some (.ref 9), some (.ref 66), some (.int a3)] [] σ b = Q (some (.int 1)) σ := rfl
theorem bl_next {C : xC} {Q : xQ} {K : xK} {σ : xH} {b : Nat × Nat} {a3 : Int32} : xrun k_L_law 2 C Q [] K 2 1427 [some (.ref 0), some (.ref 9), some (.ref 66), some (.int a3)] [] σ b = K 18 [some (.ref 0), some (.ref 9), some (.ref 66), some (.int (a3 + 6))] [] σ b := rfl
set_option maxRecDepth 100000 in
theorem bl_sw {C : xC} {Q : xQ} {K : xK} {σ : xH} {b : Nat × Nat} {a3 x : Int32} : xrun k_L_law 2 C Q [] K 1 33 [some (.ref 0), some (.ref 9), some (.ref 66), some (.int a3)] [.int x] σ b = (if x = 0 then K 224 [some (.ref 0), some (.ref 9), some (.ref 66), some (.int a3)] [] σ b else (if x = 1 then K 267 [some (.ref 0), some (.ref 9), some (.ref 66), some (.int a3)] [] σ b else (if x = 2 then K 340 [some (.ref 0), some (.ref 9), some (.ref 66), some (.int a3)] [] σ b else (if x = 3 then K 403 [some (.ref 0), some (.ref 9), some (.ref 66), some (.int a3)] [] σ b else (if x = 4 then K 437 [some (.ref 0), some (.ref 9), some (.ref 66), some (.int a3)] [] σ b else (if x = 5 then K 460 [some (.ref 0), some (.ref 9), some (.ref 66), some (.int a3)] [] σ b else (if x = 6 then K 493 [some (.ref 0), some (.ref 9), some (.ref 66), some (.int a3)] [] σ b else (if x = 7 then K 526 [some (.ref 0), some (.ref 9), some (.ref 66), some (.int a3)] [] σ b else (if x = 8 then K 549 [some (.ref 0), some (.ref 9), some (.ref 66), some (.int a3)] [] σ b else (if x = 9 then K 572 [some (.ref 0), some (.ref 9), some (.ref 66), some (.int a3)] [] σ b else (if x = 10 then K 595 [some (.ref 0), some (.ref 9), some (.ref 66), some (.int a3)] [] σ b else (if x = 11 then K 638 [some (.ref 0), some (.ref 9), some (.ref 66), some (.int a3)] [] σ b else (if x = 12 then K 681 [some (.ref 0), some (.ref 9), some (.ref 66), some (.int a3)] [] σ b else (if x = 13 then K 714 [some (.ref 0), some (.ref 9), some (.ref 66), some (.int a3)] [] σ b else (if x = 14 then K 757 [some (.ref 0), some (.ref 9), some (.ref 66), some (.int a3)] [] σ b else (if x = 15 then K 770 [some (.ref 0), some (.ref 9), some (.ref 66), some (.int a3)] [] σ b else (if x = 16 then K 793 [some (.ref 0), some (.ref 9), some (.ref 66), some (.int a3)] [] σ b else (if x = 17 then K 806 [some (.ref 0), some (.ref 9), some (.ref 66), some (.int a3)] [] σ b else (if x = 18 then K 819 [some (.ref 0), some (.ref 9), some (.ref 66), some (.int a3)] [] σ b else (if x = 19 then K 842 [some (.ref 0), some (.ref 9), some (.ref 66), some (.int a3)] [] σ b else (if x = 20 then K 875 [some (.ref 0), some (.ref 9), some (.ref 66), some (.int a3)] [] σ b else (if x = 21 then K 898 [some (.ref 0), some (.ref 9), some (.ref 66), some (.int a3)] [] σ b else (if x = 22 then K 931 [some (.ref 0), some (.ref 9), some (.ref 66), some (.int a3)] [] σ b else (if x = 23 then K 944 [some (.ref 0), some (.ref 9), some (.ref 66), some (.int a3)] [] σ b else (if x = 24 then K 987 [some (.ref 0), some (.ref 9), some (.ref 66), some (.int a3)] [] σ b else (if x = 25 then K 1010 [some (.ref 0), some (.ref 9), some (.ref 66), some (.int a3)] [] σ b else (if x = 26 then K 1033 [some (.ref 0), some (.ref 9), some (.ref 66), some (.int a3)] [] σ b else (if x = 27 then K 1046 [some (.ref 0), some (.ref 9), some (.ref 66), some (.int a3)] [] σ b else (if x = 28 then K 1069 [some (.ref 0), some (.ref 9), some (.ref 66), some (.int a3)] [] σ b else (if x = 29 then K 1092 [some (.ref 0), some (.ref 9), some (.ref 66), some (.int a3)] [] σ b else (if x = 30 then K 1125 [some (.ref 0), some (.ref 9), some (.ref 66), some (.int a3)] [] σ b else (if x = 31 then K 1148 [some (.ref 0), some (.ref 9), some (.ref 66), some (.int a3)] [] σ b else (if x = 32 then K 1181 [some (.ref 0), some (.ref 9), some (.ref 66), some (.int a3)] [] σ b else (if x = 33 then K 1204 [some (.ref 0), some (.ref 9), some (.ref 66), some (.int a3)] [] σ b else (if x = 34 then K 1227 [some (.ref 0), some (.ref 9), some (.ref 66), some (.int a3)] [] σ b else (if x = 35 then K 1240 [some (.ref 0), some (.ref 9), some (.ref 66), some (.int a3)] [] σ b else (if x = 36 then K 1273 [some (.ref 0), some (.ref 9), some (.ref 66), some (.int a3)] [] σ b else (if x = 37 then K 1296 [some (.ref 0), some (.ref 9), some (.ref 66), some (.int a3)] [] σ b else (if x = 38 then K 1309 [some (.ref 0), some (.ref 9), some (.ref 66), some (.int a3)] [] σ b else (if x = 39 then K 1332 [some (.ref 0), some (.ref 9), some (.ref 66), some (.int a3)] [] σ b else (if x = 40 then K 1355 [some (.ref 0), some (.ref 9), some (.ref 66), some (.int a3)] [] σ b else (if x = 41 then K 1378 [some (.ref 0), some (.ref 9), some (.ref 66), some (.int a3)] [] σ b else (if x = 42 then K 1391 [some (.ref 0), some (.ref 9), some (.ref 66), some (.int a3)] [] σ b else (if x = 43 then K 1404 [some (.ref 0), some (.ref 9), some (.ref 66), some (.int a3)] [] σ b else K 1427 [some (.ref 0), some (.ref 9), some (.ref 66), some (.int a3)] [] σ b)))))))))))))))))))))))))))))))))))))))))))) := rfl
