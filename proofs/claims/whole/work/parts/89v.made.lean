/-! promises: image, back; a copy of the reference is made -/
def vkm (x y : Bool) (o k : Nat) : Bool := match vcd 4 186 [.ref o] ([(o, none)], xset (xR0 (x, y, 0)) o (xrow o), bif Nat.beq o 112 then (112, 113, bif y then 204 else 158) else (112, bif x then 158 else 112, 159)) with
  | some (none, (g, R, A)) => decide (A = (112, bif Nat.beq o 112 then 158 else bif x then 158 else 112, bif Nat.beq o 112 then (bif y then 204 else 158) else 204)) && decide (xwr R 66 k (some o) = xR0 (bif Nat.beq o 112 then true else x, bif Nat.beq o 112 then y else true, 0)) && g.all (fun e => Nat.ble o e.1 && Nat.blt e.1 (o + 46))
  | _ => false
theorem vkm_112 : ∀ y, vkm false y 112 21 = true := by
  intro y
  cases y <;> decide +kernel
theorem vkm_158 : ∀ x, vkm x false 158 22 = true := by
  intro x
  cases x <;> decide +kernel
theorem t_new_112_00 {I : xI} {L : xL} {N : Nat} {Q : xQ} (h : ∀ (J : xI) (M : xL) (R : xR), (∀ o, o < 112 ∨ 158 ≤ o → ∀ k, J o k = I o k) → (∀ o, o < 112 ∨ 158 ≤ o → ∀ k, M o k = L o k) → xwr R 66 21 (some 112) = xR0 (true, false, N) → Q none (J, M, R, (112, 158, 158), N)) : xCd 4 186 [.ref 112] (xwz I 112, xwlz L 112, xset (xR0 (false, false, N)) 112 (xrow 112), (112, 113, 158), N) Q := by
  have c := vkm_112 false
  unfold vkm at c
  split at c
  · rename_i g R A e
    obtain ⟨c1, c2⟩ := (Bool.and_eq_true _ _).mp c
    obtain ⟨c3, c4⟩ := (Bool.and_eq_true _ _).mp c1
    have c3 := of_decide_eq_true c3
    have c4 := of_decide_eq_true c4
    have k := vcd_ok (I := I) (L := L) (N := N) 4 186 [.ref 112] _ none _ e Q
    refine k ?_
    have c3 : A = (112, 158, 158) := c3
    subst c3
    exact h _ _ R (fun o ho k => vI_out c2 (by omega) k) (fun o ho k => vL_out c2 (by omega) k) c4
  · cases c
theorem t_made_112_00 {A : xAb} {I : xI} {L : xL} {N : Nat} (hA : abOK A) (hM : xTM I 66 A) : xCd 6 296 [.ref 66] (xS I L (false, false, N)) (fun r τ => r = some (.int 1) ∧ ∃ K M, τ = xS K M (true, false, N) ∧ (∀ o, o < 112 ∨ 158 ≤ o → ∀ k, K o k = I o k) ∧ (∀ o, o < 112 ∨ 158 ≤ o → ∀ k, M o k = L o k) ∧ xTM K 112 A) := by
  refine xin_ (T := k_X9_image) (rt := 1) (ls := [some (.ref 66)]) rfl rfl rfl rfl ?_
  have call : ∀ Q : xQ, xCd 5 186 [.ref 112] (xwz I 112, xwlz L 112, xset (xR0 (false, false, N)) 112 (xrow 112), (112, 113, 158), N) (fun r τ => xEX k_X9_image 1 (xCd 5) Q 15 [some (.ref 66)] (r.toList ++ [.ref 112, .ref 66]) τ (0, 0)) → xEX k_X9_image 1 (xCd 5) Q 0 [some (.ref 66)] [] (xS I L (false, false, N)) (46, 5872) := fun Q h => xgo (S := []) (n := 7) rfl h
  refine call _ (xuse (t_new_112_00 (Q := fun r τ => r = none ∧ ∃ (J : xI) (M : xL) (R : xR), τ = (J, M, R, (112, 158, 158), N) ∧ (∀ o, o < 112 ∨ 158 ≤ o → ∀ k, J o k = I o k) ∧ (∀ o, o < 112 ∨ 158 ≤ o → ∀ k, M o k = L o k) ∧ xwr R 66 21 (some 112) = xR0 (true, false, N)) (fun J M R h1 h2 h3 => ⟨rfl, J, M, R, rfl, h1, h2, h3⟩)) (by decide) ?_)
  rintro _ _ ⟨rfl, J, M, R, rfl, h1, h2, h3⟩
  refine xEX_in ?_
  show xEX k_X9_image 1 (xCd 5) _ 18 [some (.ref 66)] [] (J, M, xwr R 66 21 (some 112), (112, 158, 158), N) (0, 0)
  rw [h3]
  have go : ∀ Q : xQ, xCd 5 295 [.ref 112, .ref 66] (xS J M (true, false, N)) (fun r τ => xEX k_X9_image 1 (xCd 5) Q 26 [some (.ref 66)] (r.toList ++ []) τ (0, 0)) → xEX k_X9_image 1 (xCd 5) Q 18 [some (.ref 66)] [] (xS J M (true, false, N)) (0, 0) := fun Q h => xgo (S := []) (n := 4) rfl h
  refine go _ (xuse t_from_112_66_10 (by decide) ?_)
  rintro _ _ ⟨rfl, K, rfl, hK⟩
  refine g_X9_image_10_26 (by decide) ⟨rfl, K, M, rfl, ?_, h2, ?_⟩
  · intro o ho k
    rw [hK.1 o k (by unfold tfS; omega)]
    exact h1 o ho k
  · exact xTf_TM hA hK (xTM_congr (h1 66 (by omega) 9) (h1 66 (by omega) 10) (h1 66 (by omega) 17) (h1 66 (by omega) 20) (fun o a b k => h1 o (by omega) k) hM)
theorem t_new_112_01 {I : xI} {L : xL} {N : Nat} {Q : xQ} (h : ∀ (J : xI) (M : xL) (R : xR), (∀ o, o < 112 ∨ 158 ≤ o → ∀ k, J o k = I o k) → (∀ o, o < 112 ∨ 158 ≤ o → ∀ k, M o k = L o k) → xwr R 66 21 (some 112) = xR0 (true, true, N) → Q none (J, M, R, (112, 158, 204), N)) : xCd 4 186 [.ref 112] (xwz I 112, xwlz L 112, xset (xR0 (false, true, N)) 112 (xrow 112), (112, 113, 204), N) Q := by
  have c := vkm_112 true
  unfold vkm at c
  split at c
  · rename_i g R A e
    obtain ⟨c1, c2⟩ := (Bool.and_eq_true _ _).mp c
    obtain ⟨c3, c4⟩ := (Bool.and_eq_true _ _).mp c1
    have c3 := of_decide_eq_true c3
    have c4 := of_decide_eq_true c4
    have k := vcd_ok (I := I) (L := L) (N := N) 4 186 [.ref 112] _ none _ e Q
    refine k ?_
    have c3 : A = (112, 158, 204) := c3
    subst c3
    exact h _ _ R (fun o ho k => vI_out c2 (by omega) k) (fun o ho k => vL_out c2 (by omega) k) c4
  · cases c
theorem t_made_112_01 {A : xAb} {I : xI} {L : xL} {N : Nat} (hA : abOK A) (hM : xTM I 66 A) : xCd 6 296 [.ref 66] (xS I L (false, true, N)) (fun r τ => r = some (.int 1) ∧ ∃ K M, τ = xS K M (true, true, N) ∧ (∀ o, o < 112 ∨ 158 ≤ o → ∀ k, K o k = I o k) ∧ (∀ o, o < 112 ∨ 158 ≤ o → ∀ k, M o k = L o k) ∧ xTM K 112 A) := by
  refine xin_ (T := k_X9_image) (rt := 1) (ls := [some (.ref 66)]) rfl rfl rfl rfl ?_
  have call : ∀ Q : xQ, xCd 5 186 [.ref 112] (xwz I 112, xwlz L 112, xset (xR0 (false, true, N)) 112 (xrow 112), (112, 113, 204), N) (fun r τ => xEX k_X9_image 1 (xCd 5) Q 15 [some (.ref 66)] (r.toList ++ [.ref 112, .ref 66]) τ (0, 0)) → xEX k_X9_image 1 (xCd 5) Q 0 [some (.ref 66)] [] (xS I L (false, true, N)) (46, 5872) := fun Q h => xgo (S := []) (n := 7) rfl h
  refine call _ (xuse (t_new_112_01 (Q := fun r τ => r = none ∧ ∃ (J : xI) (M : xL) (R : xR), τ = (J, M, R, (112, 158, 204), N) ∧ (∀ o, o < 112 ∨ 158 ≤ o → ∀ k, J o k = I o k) ∧ (∀ o, o < 112 ∨ 158 ≤ o → ∀ k, M o k = L o k) ∧ xwr R 66 21 (some 112) = xR0 (true, true, N)) (fun J M R h1 h2 h3 => ⟨rfl, J, M, R, rfl, h1, h2, h3⟩)) (by decide) ?_)
  rintro _ _ ⟨rfl, J, M, R, rfl, h1, h2, h3⟩
  refine xEX_in ?_
  show xEX k_X9_image 1 (xCd 5) _ 18 [some (.ref 66)] [] (J, M, xwr R 66 21 (some 112), (112, 158, 204), N) (0, 0)
  rw [h3]
  have go : ∀ Q : xQ, xCd 5 295 [.ref 112, .ref 66] (xS J M (true, true, N)) (fun r τ => xEX k_X9_image 1 (xCd 5) Q 26 [some (.ref 66)] (r.toList ++ []) τ (0, 0)) → xEX k_X9_image 1 (xCd 5) Q 18 [some (.ref 66)] [] (xS J M (true, true, N)) (0, 0) := fun Q h => xgo (S := []) (n := 4) rfl h
  refine go _ (xuse t_from_112_66_11 (by decide) ?_)
  rintro _ _ ⟨rfl, K, rfl, hK⟩
  refine g_X9_image_11_26 (by decide) ⟨rfl, K, M, rfl, ?_, h2, ?_⟩
  · intro o ho k
    rw [hK.1 o k (by unfold tfS; omega)]
    exact h1 o ho k
  · exact xTf_TM hA hK (xTM_congr (h1 66 (by omega) 9) (h1 66 (by omega) 10) (h1 66 (by omega) 17) (h1 66 (by omega) 20) (fun o a b k => h1 o (by omega) k) hM)
theorem t_new_158_00 {I : xI} {L : xL} {N : Nat} {Q : xQ} (h : ∀ (J : xI) (M : xL) (R : xR), (∀ o, o < 158 ∨ 204 ≤ o → ∀ k, J o k = I o k) → (∀ o, o < 158 ∨ 204 ≤ o → ∀ k, M o k = L o k) → xwr R 66 22 (some 158) = xR0 (false, true, N) → Q none (J, M, R, (112, 112, 204), N)) : xCd 4 186 [.ref 158] (xwz I 158, xwlz L 158, xset (xR0 (false, false, N)) 158 (xrow 158), (112, 112, 159), N) Q := by
  have c := vkm_158 false
  unfold vkm at c
  split at c
  · rename_i g R A e
    obtain ⟨c1, c2⟩ := (Bool.and_eq_true _ _).mp c
    obtain ⟨c3, c4⟩ := (Bool.and_eq_true _ _).mp c1
    have c3 := of_decide_eq_true c3
    have c4 := of_decide_eq_true c4
    have k := vcd_ok (I := I) (L := L) (N := N) 4 186 [.ref 158] _ none _ e Q
    refine k ?_
    have c3 : A = (112, 112, 204) := c3
    subst c3
    exact h _ _ R (fun o ho k => vI_out c2 (by omega) k) (fun o ho k => vL_out c2 (by omega) k) c4
  · cases c
theorem t_made_158_00 {A : xAb} {I : xI} {L : xL} {N : Nat} (hA : abOK A) (hM : xTM I 66 A) : xCd 6 233 [.ref 66] (xS I L (false, false, N)) (fun r τ => r = some (.ref 158) ∧ ∃ K M, τ = xS K M (false, true, N) ∧ (∀ o, o < 158 ∨ 204 ≤ o → ∀ k, K o k = I o k) ∧ (∀ o, o < 158 ∨ 204 ≤ o → ∀ k, M o k = L o k) ∧ xTM K 158 A) := by
  refine xin_ (T := k_X9_fresh) (rt := 4) (ls := [some (.ref 66)]) rfl rfl rfl rfl ?_
  have call : ∀ Q : xQ, xCd 5 186 [.ref 158] (xwz I 158, xwlz L 158, xset (xR0 (false, false, N)) 158 (xrow 158), (112, 112, 159), N) (fun r τ => xEX k_X9_fresh 4 (xCd 5) Q 15 [some (.ref 66)] (r.toList ++ [.ref 158, .ref 66]) τ (0, 0)) → xEX k_X9_fresh 4 (xCd 5) Q 0 [some (.ref 66)] [] (xS I L (false, false, N)) (46, 5872) := fun Q h => xgo (S := []) (n := 7) rfl h
  refine call _ (xuse (t_new_158_00 (Q := fun r τ => r = none ∧ ∃ (J : xI) (M : xL) (R : xR), τ = (J, M, R, (112, 112, 204), N) ∧ (∀ o, o < 158 ∨ 204 ≤ o → ∀ k, J o k = I o k) ∧ (∀ o, o < 158 ∨ 204 ≤ o → ∀ k, M o k = L o k) ∧ xwr R 66 22 (some 158) = xR0 (false, true, N)) (fun J M R h1 h2 h3 => ⟨rfl, J, M, R, rfl, h1, h2, h3⟩)) (by decide) ?_)
  rintro _ _ ⟨rfl, J, M, R, rfl, h1, h2, h3⟩
  refine xEX_in ?_
  show xEX k_X9_fresh 4 (xCd 5) _ 18 [some (.ref 66)] [] (J, M, xwr R 66 22 (some 158), (112, 112, 204), N) (0, 0)
  rw [h3]
  have go : ∀ Q : xQ, xCd 5 295 [.ref 158, .ref 66] (xS J M (false, true, N)) (fun r τ => xEX k_X9_fresh 4 (xCd 5) Q 26 [some (.ref 66)] (r.toList ++ []) τ (0, 0)) → xEX k_X9_fresh 4 (xCd 5) Q 18 [some (.ref 66)] [] (xS J M (false, true, N)) (0, 0) := fun Q h => xgo (S := []) (n := 4) rfl h
  refine go _ (xuse t_from_158_66_01 (by decide) ?_)
  rintro _ _ ⟨rfl, K, rfl, hK⟩
  refine g_X9_fresh_01_26 (by decide) ⟨rfl, K, M, rfl, ?_, h2, ?_⟩
  · intro o ho k
    rw [hK.1 o k (by unfold tfS; omega)]
    exact h1 o ho k
  · exact xTf_TM hA hK (xTM_congr (h1 66 (by omega) 9) (h1 66 (by omega) 10) (h1 66 (by omega) 17) (h1 66 (by omega) 20) (fun o a b k => h1 o (by omega) k) hM)
theorem t_new_158_10 {I : xI} {L : xL} {N : Nat} {Q : xQ} (h : ∀ (J : xI) (M : xL) (R : xR), (∀ o, o < 158 ∨ 204 ≤ o → ∀ k, J o k = I o k) → (∀ o, o < 158 ∨ 204 ≤ o → ∀ k, M o k = L o k) → xwr R 66 22 (some 158) = xR0 (true, true, N) → Q none (J, M, R, (112, 158, 204), N)) : xCd 4 186 [.ref 158] (xwz I 158, xwlz L 158, xset (xR0 (true, false, N)) 158 (xrow 158), (112, 158, 159), N) Q := by
  have c := vkm_158 true
  unfold vkm at c
  split at c
  · rename_i g R A e
    obtain ⟨c1, c2⟩ := (Bool.and_eq_true _ _).mp c
    obtain ⟨c3, c4⟩ := (Bool.and_eq_true _ _).mp c1
    have c3 := of_decide_eq_true c3
    have c4 := of_decide_eq_true c4
    have k := vcd_ok (I := I) (L := L) (N := N) 4 186 [.ref 158] _ none _ e Q
    refine k ?_
    have c3 : A = (112, 158, 204) := c3
    subst c3
    exact h _ _ R (fun o ho k => vI_out c2 (by omega) k) (fun o ho k => vL_out c2 (by omega) k) c4
  · cases c
theorem t_made_158_10 {A : xAb} {I : xI} {L : xL} {N : Nat} (hA : abOK A) (hM : xTM I 66 A) : xCd 6 233 [.ref 66] (xS I L (true, false, N)) (fun r τ => r = some (.ref 158) ∧ ∃ K M, τ = xS K M (true, true, N) ∧ (∀ o, o < 158 ∨ 204 ≤ o → ∀ k, K o k = I o k) ∧ (∀ o, o < 158 ∨ 204 ≤ o → ∀ k, M o k = L o k) ∧ xTM K 158 A) := by
  refine xin_ (T := k_X9_fresh) (rt := 4) (ls := [some (.ref 66)]) rfl rfl rfl rfl ?_
  have call : ∀ Q : xQ, xCd 5 186 [.ref 158] (xwz I 158, xwlz L 158, xset (xR0 (true, false, N)) 158 (xrow 158), (112, 158, 159), N) (fun r τ => xEX k_X9_fresh 4 (xCd 5) Q 15 [some (.ref 66)] (r.toList ++ [.ref 158, .ref 66]) τ (0, 0)) → xEX k_X9_fresh 4 (xCd 5) Q 0 [some (.ref 66)] [] (xS I L (true, false, N)) (46, 5872) := fun Q h => xgo (S := []) (n := 7) rfl h
  refine call _ (xuse (t_new_158_10 (Q := fun r τ => r = none ∧ ∃ (J : xI) (M : xL) (R : xR), τ = (J, M, R, (112, 158, 204), N) ∧ (∀ o, o < 158 ∨ 204 ≤ o → ∀ k, J o k = I o k) ∧ (∀ o, o < 158 ∨ 204 ≤ o → ∀ k, M o k = L o k) ∧ xwr R 66 22 (some 158) = xR0 (true, true, N)) (fun J M R h1 h2 h3 => ⟨rfl, J, M, R, rfl, h1, h2, h3⟩)) (by decide) ?_)
  rintro _ _ ⟨rfl, J, M, R, rfl, h1, h2, h3⟩
  refine xEX_in ?_
  show xEX k_X9_fresh 4 (xCd 5) _ 18 [some (.ref 66)] [] (J, M, xwr R 66 22 (some 158), (112, 158, 204), N) (0, 0)
  rw [h3]
  have go : ∀ Q : xQ, xCd 5 295 [.ref 158, .ref 66] (xS J M (true, true, N)) (fun r τ => xEX k_X9_fresh 4 (xCd 5) Q 26 [some (.ref 66)] (r.toList ++ []) τ (0, 0)) → xEX k_X9_fresh 4 (xCd 5) Q 18 [some (.ref 66)] [] (xS J M (true, true, N)) (0, 0) := fun Q h => xgo (S := []) (n := 4) rfl h
  refine go _ (xuse t_from_158_66_11 (by decide) ?_)
  rintro _ _ ⟨rfl, K, rfl, hK⟩
  refine g_X9_fresh_11_26 (by decide) ⟨rfl, K, M, rfl, ?_, h2, ?_⟩
  · intro o ho k
    rw [hK.1 o k (by unfold tfS; omega)]
    exact h1 o ho k
  · exact xTf_TM hA hK (xTM_congr (h1 66 (by omega) 9) (h1 66 (by omega) 10) (h1 66 (by omega) 17) (h1 66 (by omega) 20) (fun o a b k => h1 o (by omega) k) hM)
theorem t_made_112_10 {A : xAb} {I : xI} {L : xL} {N : Nat} (hA : abOK A) (hM : xTM I 66 A) : xCd 6 296 [.ref 66] (xS I L (true, false, N)) (fun r τ => r = some (.int 1) ∧ ∃ K M, τ = xS K M (true, false, N) ∧ (∀ o, o < 112 ∨ 158 ≤ o → ∀ k, K o k = I o k) ∧ (∀ o, o < 112 ∨ 158 ≤ o → ∀ k, M o k = L o k) ∧ xTM K 112 A) := by
  refine c_X9_image_10 (d := 5) (g_X9_image_10_0 (by decide) ?_)
  refine xuse t_from_112_66_10 (by decide) ?_
  rintro _ _ ⟨rfl, K, rfl, hK⟩
  refine g_X9_image_10_26 (by decide) ⟨rfl, K, L, rfl, ?_, fun o ho k => rfl, xTf_TM hA hK hM⟩
  intro o ho k
  exact hK.1 o k (by unfold tfS; omega)
theorem t_made_112_11 {A : xAb} {I : xI} {L : xL} {N : Nat} (hA : abOK A) (hM : xTM I 66 A) : xCd 6 296 [.ref 66] (xS I L (true, true, N)) (fun r τ => r = some (.int 1) ∧ ∃ K M, τ = xS K M (true, true, N) ∧ (∀ o, o < 112 ∨ 158 ≤ o → ∀ k, K o k = I o k) ∧ (∀ o, o < 112 ∨ 158 ≤ o → ∀ k, M o k = L o k) ∧ xTM K 112 A) := by
  refine c_X9_image_11 (d := 5) (g_X9_image_11_0 (by decide) ?_)
  refine xuse t_from_112_66_11 (by decide) ?_
  rintro _ _ ⟨rfl, K, rfl, hK⟩
  refine g_X9_image_11_26 (by decide) ⟨rfl, K, L, rfl, ?_, fun o ho k => rfl, xTf_TM hA hK hM⟩
  intro o ho k
  exact hK.1 o k (by unfold tfS; omega)
theorem t_made_158_01 {A : xAb} {I : xI} {L : xL} {N : Nat} (hA : abOK A) (hM : xTM I 66 A) : xCd 6 233 [.ref 66] (xS I L (false, true, N)) (fun r τ => r = some (.ref 158) ∧ ∃ K M, τ = xS K M (false, true, N) ∧ (∀ o, o < 158 ∨ 204 ≤ o → ∀ k, K o k = I o k) ∧ (∀ o, o < 158 ∨ 204 ≤ o → ∀ k, M o k = L o k) ∧ xTM K 158 A) := by
  refine c_X9_fresh_01 (d := 5) (g_X9_fresh_01_0 (by decide) ?_)
  refine xuse t_from_158_66_01 (by decide) ?_
  rintro _ _ ⟨rfl, K, rfl, hK⟩
  refine g_X9_fresh_01_26 (by decide) ⟨rfl, K, L, rfl, ?_, fun o ho k => rfl, xTf_TM hA hK hM⟩
  intro o ho k
  exact hK.1 o k (by unfold tfS; omega)
theorem t_made_158_11 {A : xAb} {I : xI} {L : xL} {N : Nat} (hA : abOK A) (hM : xTM I 66 A) : xCd 6 233 [.ref 66] (xS I L (true, true, N)) (fun r τ => r = some (.ref 158) ∧ ∃ K M, τ = xS K M (true, true, N) ∧ (∀ o, o < 158 ∨ 204 ≤ o → ∀ k, K o k = I o k) ∧ (∀ o, o < 158 ∨ 204 ≤ o → ∀ k, M o k = L o k) ∧ xTM K 158 A) := by
  refine c_X9_fresh_11 (d := 5) (g_X9_fresh_11_0 (by decide) ?_)
  refine xuse t_from_158_66_11 (by decide) ?_
  rintro _ _ ⟨rfl, K, rfl, hK⟩
  refine g_X9_fresh_11_26 (by decide) ⟨rfl, K, L, rfl, ?_, fun o ho k => rfl, xTf_TM hA hK hM⟩
  intro o ho k
  exact hK.1 o k (by unfold tfS; omega)
theorem t_imageM {A : xAb} {I : xI} {L : xL} {z : Bool × Bool × Nat} (hA : abOK A) (hM : xTM I 66 A) : xCd 6 296 [.ref 66] (xS I L z) (fun r τ => r = some (.int 1) ∧ ∃ K M, τ = xS K M (true, z.2) ∧ (∀ o, o < 112 ∨ 158 ≤ o → ∀ k, K o k = I o k) ∧ (∀ o, o < 112 ∨ 158 ≤ o → ∀ k, M o k = L o k) ∧ xTM K 112 A) := by
  obtain ⟨x, y, N⟩ := z
  cases x <;> cases y
  · exact t_made_112_00 hA hM
  · exact t_made_112_01 hA hM
  · exact t_made_112_10 hA hM
  · exact t_made_112_11 hA hM
theorem t_freshM {A : xAb} {I : xI} {L : xL} {z : Bool × Bool × Nat} (hA : abOK A) (hM : xTM I 66 A) : xCd 6 233 [.ref 66] (xS I L z) (fun r τ => r = some (.ref 158) ∧ ∃ K M, τ = xS K M (z.1, true, z.2.2) ∧ (∀ o, o < 158 ∨ 204 ≤ o → ∀ k, K o k = I o k) ∧ (∀ o, o < 158 ∨ 204 ≤ o → ∀ k, M o k = L o k) ∧ xTM K 158 A) := by
  obtain ⟨x, y, N⟩ := z
  cases x <;> cases y
  · exact t_made_158_00 hA hM
  · exact t_made_158_01 hA hM
  · exact t_made_158_10 hA hM
  · exact t_made_158_11 hA hM
theorem pr_image : xPq 174 296 [] := by
  intro c A I L z hc h
  have hA := h.1.1
  refine c_X8_image (d := 29) (g_X8_image_0 (by decide) ?_)
  refine xuse t_take_19_10 (by decide) ?_
  rintro _ _ ⟨rfl, J, rfl, hJ⟩
  refine g_X8_image_11 (by decide) ?_
  obtain ⟨hb, hs, ha, hcc, ⟨t, t1, t2⟩⟩ := h
  obtain ⟨h0, h1, h2, h3, h4, h5, h6, h7⟩ := hb
  have hJ1 : ∀ o k, ¬ (19 ≤ o ∧ o ≤ 27) → J o k = I o k := fun o k q => hJ.1 o k (by unfold trS; omega)
  have hJ2 : ∀ o k, ¬ ((19 ≤ o ∧ o ≤ 27) ∨ (o = 9 ∧ k = 11)) → xw J 9 11 1 o k = I o k := fun o k q => (xw_ne (by omega)).trans (hJ1 o k (by omega))
  have mM : xTM (xw J 9 11 1) 66 A := xTM_sm (S := fun o k => (19 ≤ o ∧ o ≤ 27) ∨ (o = 9 ∧ k = 11)) hJ2 (by omega) (fun o a b k => by omega) h2
  refine xuse (t_imageM hA mM) (by decide) ?_
  rintro _ _ ⟨rfl, K, M, rfl, hK, hM, kM⟩
  have g : ∀ o k, ¬ ((19 ≤ o ∧ o ≤ 27) ∨ (o = 9 ∧ k = 11) ∨ (112 ≤ o ∧ o < 158)) → K o k = I o k := fun o k q => (hK o (by omega) k).trans (hJ2 o k (by omega))
  have gg : xsm (fun o k => (19 ≤ o ∧ o ≤ 27) ∨ (o = 9 ∧ k = 11) ∨ (112 ≤ o ∧ o < 158)) I K := g
  refine ⟨rfl, A, K, M, _, rfl, ⟨hA, ?_, ?_, ?_, ?_, ?_, ?_, ?_⟩, ?_, ?_, ?_, t, by omega, ?_⟩
  · exact xTX_sm gg (fun k hk => by omega) (fun o a b k => by omega) h1
  · exact xTM_sm gg (by omega) (fun o a b k => by omega) h2
  · intro s hs
    have e := h3 s hs
    unfold xShM at e ⊢
    rw [g 58 s (by omega), g 59 s (by omega), g 67 s (by omega), g 68 s (by omega), g 69 s (by omega), g 80 s (by omega), g 10 4 (by omega)]
    rcases e with e | ⟨v, n, e1, e2, e3, e4, e5, e6, e7, e8⟩ | e
    · exact Or.inl e
    · exact Or.inr (Or.inl ⟨v, n, e1, e2, e3, e4, e5, e6, e7, fun i hi => by rw [hM 60 (by omega), hM (71 + s) (by omega)]; exact e8 i hi⟩)
    · exact Or.inr (Or.inr e)
  · intro i hi; rw [g 65 i (by omega), g 82 _ (by omega)]; exact h4 i hi
  · obtain ⟨n, a, b, d, e⟩ := h5
    refine ⟨n, a, ?_, ?_, ?_⟩
    · rw [g 61 0 (by omega)]; exact b
    · rw [g 66 7 (by omega)]; exact d
    · intro i hi; rw [g 62 i (by omega), g 81 i (by omega)]; exact e i hi
  · rw [hK 9 (by omega) 11, xw_eq, if_pos rfl]
  · intro _
    refine ⟨A, hA, ?_, kM⟩
    exact xTX_sm (S := fun o k => (o = 9 ∧ k = 11) ∨ (112 ≤ o ∧ o < 158)) (fun o k q => (hK o (by omega) k).trans (xw_ne (by omega))) (fun k hk => by omega) (fun o a b k => by omega) (xTk_TX hA hJ h1)
  · exact xShf_sm gg (fun k => by omega) hs
  · exact xAbv_sm gg (fun k => by omega) ha
  · exact xCache_sm gg (fun o k e => by unfold noC; omega) hcc
  · exact xTal_sm gg (fun o k e => by omega) t2
/-- the tellers that are no more leave the shelves -/
def drS (J : xI) (m i : Nat) : xI := fun o k => if o = 58 ∧ k < i ∧ ¬ (J 58 k < Int32.ofNat (10 + m)) then -1 else J o k
theorem t_drop {m : Nat} {J : xI} {L : xL} {z : Bool × Bool × Nat} : xCd 1 50 [.ref 57, .int (Int32.ofNat m)] (xS J L z) (fun r τ => r = none ∧ τ = xS (drS J m 8) L z) := by
  refine c_X2_dropTellersFrom (d := 0) (g_X2_dropTellersFrom_0 (Nat.le_refl _) ?_)
  have key : ∀ i, i ≤ 8 → h_X2_dropTellersFrom_2 0 (fun r τ => r = none ∧ τ = xS (drS J m 8) L z) (0, 0) (drS J m i) L z (Int32.ofNat m) (Int32.ofNat i) := by
    refine xcount _ 8 ?_ ?_
    · intro i hi KK
      refine g_X2_dropTellersFrom_2 (Nat.le_refl _) ?_
      have e58 : drS J m i 58 i = J 58 i := if_neg (fun q => absurd q.2.1 (Nat.lt_irrefl _))
      rw [if_pos (show Int32.ofNat i < (8 : Int32) from (xv_lt (b := 8) (by omega) (by decide)).mpr hi), if_pos ((xv_in (by omega)).mpr hi)]
      rw [xv_clamp (by omega), e58, show (10 : Int32) + Int32.ofNat m = Int32.ofNat (10 + m) from xv_add 10 m, show Int32.ofNat i + 1 = Int32.ofNat (i + 1) from xv_add i 1]
      by_cases c : J 58 i < Int32.ofNat (10 + m)
      · rw [if_pos c]
        have e : drS J m (i + 1) = drS J m i := by
          funext o k
          unfold drS
          by_cases d : o = 58 ∧ k = i
          · rw [d.1, d.2, if_neg (fun q => q.2.2 c), if_neg (fun q => q.2.2 c)]
          · by_cases f : o = 58 ∧ k < i ∧ ¬ (J 58 k < Int32.ofNat (10 + m))
            · rw [if_pos f, if_pos ⟨f.1, by omega, f.2.2⟩]
            · rw [if_neg f, if_neg (fun q => f ⟨q.1, by omega, q.2.2⟩)]
        rw [e] at KK; exact KK
      · rw [if_neg c]
        have e : xw (drS J m i) 58 i (-1) = drS J m (i + 1) := by
          funext o k
          unfold drS xw
          by_cases d : o = 58 ∧ k = i
          · rw [if_pos d, if_pos ⟨d.1, by omega, by rw [d.2]; exact c⟩]
          · rw [if_neg d]
            dsimp only
            by_cases f : o = 58 ∧ k < i ∧ ¬ (J 58 k < Int32.ofNat (10 + m))
            · rw [if_pos f, if_pos ⟨f.1, by omega, f.2.2⟩]
            · rw [if_neg f, if_neg (fun q => f ⟨q.1, by omega, q.2.2⟩)]
        rw [e]; exact KK
    · refine g_X2_dropTellersFrom_2 (Nat.le_refl _) ?_
      rw [if_neg (show ¬ Int32.ofNat 8 < (8 : Int32) from by decide)]
      exact ⟨rfl, rfl⟩
  have q := key 0 (Nat.zero_le _)
  have e : drS J m 0 = J := by
    funext o k
    exact if_neg (fun q => absurd q.2.1 (Nat.not_lt_zero _))
  rw [e] at q
  exact q
/-- .. the reference's -/
def drM (J : xI) (i : Nat) : xI := fun o k => if o = 67 ∧ k < i ∧ J 67 k = 2 ∧ ¬ (J 80 k < J 66 17) then 0 else J o k
theorem t_back_10 {A B : xAb} {J : xI} {L : xL} {N : Nat} (hB : abOK B) (hM : xTM J 112 B) : xCd 4 297 [.ref 66] (xS J L (true, false, N)) (fun r τ => r = some (.int 1) ∧ ∃ K, τ = xS (drM K 8) L (true, false, N) ∧ xTf J K 66 112 ∧ xTM K 66 B) := by
  refine c_X9_back_10 (d := 3) (g_X9_back_10_0 (by decide) ?_)
  refine xuse t_from_66_112_10 (by decide) ?_
  rintro _ _ ⟨rfl, K, rfl, hK⟩
  refine g_X9_back_10_22 (by decide) ?_
  have key : ∀ i, i ≤ 8 → h_X9_back_10_24 3 (fun r τ => r = some (.int 1) ∧ ∃ K, τ = xS (drM K 8) L (true, false, N) ∧ xTf J K 66 112 ∧ xTM K 66 B) (0, 0) (drM K i) L N (Int32.ofNat i) := by
    refine xcount _ 8 ?_ ?_
    · intro i hi KK
      refine g_X9_back_10_24 (by decide) ?_
      have e67 : drM K i 67 i = K 67 i := if_neg (fun q => absurd q.2.1 (Nat.lt_irrefl _))
      have e80 : drM K i 80 i = K 80 i := if_neg (fun q => absurd q.1 (by decide))
      have e66 : drM K i 66 17 = K 66 17 := if_neg (fun q => absurd q.1 (by decide))
      rw [if_pos (show Int32.ofNat i < (8 : Int32) from (xv_lt (b := 8) (by omega) (by decide)).mpr hi), if_pos ((xv_in (by omega)).mpr hi)]
      rw [xv_clamp (by omega), e67, e80, e66, show Int32.ofNat i + 1 = Int32.ofNat (i + 1) from xv_add i 1]
      have same : ¬ (K 67 i = 2 ∧ ¬ (K 80 i < K 66 17)) → drM K (i + 1) = drM K i := fun c => by
        funext o k
        unfold drM
        by_cases d : o = 67 ∧ k = i
        · rw [d.1, d.2, if_neg (fun q => c q.2.2), if_neg (fun q => c q.2.2)]
        · by_cases f : o = 67 ∧ k < i ∧ K 67 k = 2 ∧ ¬ (K 80 k < K 66 17)
          · rw [if_pos f, if_pos ⟨f.1, by omega, f.2.2⟩]
          · rw [if_neg f, if_neg (fun q => f ⟨q.1, by omega, q.2.2⟩)]
      by_cases c1 : K 67 i = 2
      · rw [if_pos c1]
        by_cases c2 : K 80 i < K 66 17
        · rw [if_pos c2]
          rw [same (fun q => q.2 c2)] at KK; exact KK
        · rw [if_neg c2]
          have e : xw (drM K i) 67 i 0 = drM K (i + 1) := by
            funext o k
            unfold drM xw
            by_cases d : o = 67 ∧ k = i
            · rw [if_pos d, if_pos ⟨d.1, by omega, by rw [d.2]; exact ⟨c1, c2⟩⟩]
            · rw [if_neg d]
              dsimp only
              by_cases f : o = 67 ∧ k < i ∧ K 67 k = 2 ∧ ¬ (K 80 k < K 66 17)
              · rw [if_pos f, if_pos ⟨f.1, by omega, f.2.2⟩]
              · rw [if_neg f, if_neg (fun q => f ⟨q.1, by omega, q.2.2⟩)]
          rw [e]; exact KK
      · rw [if_neg c1]
        rw [same (fun q => c1 q.1)] at KK; exact KK
    · refine g_X9_back_10_24 (by decide) ?_
      rw [if_neg (show ¬ Int32.ofNat 8 < (8 : Int32) from by decide)]
      exact ⟨rfl, K, rfl, hK, xTf_TM hB hK hM⟩
  have q := key 0 (Nat.zero_le _)
  have e : drM K 0 = K := by
    funext o k
    exact if_neg (fun q => absurd q.2.1 (Nat.not_lt_zero _))
  rw [e] at q
  exact q
theorem t_back_11 {A B : xAb} {J : xI} {L : xL} {N : Nat} (hB : abOK B) (hM : xTM J 112 B) : xCd 4 297 [.ref 66] (xS J L (true, true, N)) (fun r τ => r = some (.int 1) ∧ ∃ K, τ = xS (drM K 8) L (true, true, N) ∧ xTf J K 66 112 ∧ xTM K 66 B) := by
  refine c_X9_back_11 (d := 3) (g_X9_back_11_0 (by decide) ?_)
  refine xuse t_from_66_112_11 (by decide) ?_
  rintro _ _ ⟨rfl, K, rfl, hK⟩
  refine g_X9_back_11_22 (by decide) ?_
  have key : ∀ i, i ≤ 8 → h_X9_back_11_24 3 (fun r τ => r = some (.int 1) ∧ ∃ K, τ = xS (drM K 8) L (true, true, N) ∧ xTf J K 66 112 ∧ xTM K 66 B) (0, 0) (drM K i) L N (Int32.ofNat i) := by
    refine xcount _ 8 ?_ ?_
    · intro i hi KK
      refine g_X9_back_11_24 (by decide) ?_
      have e67 : drM K i 67 i = K 67 i := if_neg (fun q => absurd q.2.1 (Nat.lt_irrefl _))
      have e80 : drM K i 80 i = K 80 i := if_neg (fun q => absurd q.1 (by decide))
      have e66 : drM K i 66 17 = K 66 17 := if_neg (fun q => absurd q.1 (by decide))
      rw [if_pos (show Int32.ofNat i < (8 : Int32) from (xv_lt (b := 8) (by omega) (by decide)).mpr hi), if_pos ((xv_in (by omega)).mpr hi)]
      rw [xv_clamp (by omega), e67, e80, e66, show Int32.ofNat i + 1 = Int32.ofNat (i + 1) from xv_add i 1]
      have same : ¬ (K 67 i = 2 ∧ ¬ (K 80 i < K 66 17)) → drM K (i + 1) = drM K i := fun c => by
        funext o k
        unfold drM
        by_cases d : o = 67 ∧ k = i
        · rw [d.1, d.2, if_neg (fun q => c q.2.2), if_neg (fun q => c q.2.2)]
        · by_cases f : o = 67 ∧ k < i ∧ K 67 k = 2 ∧ ¬ (K 80 k < K 66 17)
          · rw [if_pos f, if_pos ⟨f.1, by omega, f.2.2⟩]
          · rw [if_neg f, if_neg (fun q => f ⟨q.1, by omega, q.2.2⟩)]
      by_cases c1 : K 67 i = 2
      · rw [if_pos c1]
        by_cases c2 : K 80 i < K 66 17
        · rw [if_pos c2]
          rw [same (fun q => q.2 c2)] at KK; exact KK
        · rw [if_neg c2]
          have e : xw (drM K i) 67 i 0 = drM K (i + 1) := by
            funext o k
            unfold drM xw
            by_cases d : o = 67 ∧ k = i
            · rw [if_pos d, if_pos ⟨d.1, by omega, by rw [d.2]; exact ⟨c1, c2⟩⟩]
            · rw [if_neg d]
              dsimp only
              by_cases f : o = 67 ∧ k < i ∧ K 67 k = 2 ∧ ¬ (K 80 k < K 66 17)
              · rw [if_pos f, if_pos ⟨f.1, by omega, f.2.2⟩]
              · rw [if_neg f, if_neg (fun q => f ⟨q.1, by omega, q.2.2⟩)]
          rw [e]; exact KK
      · rw [if_neg c1]
        rw [same (fun q => c1 q.1)] at KK; exact KK
    · refine g_X9_back_11_24 (by decide) ?_
      rw [if_neg (show ¬ Int32.ofNat 8 < (8 : Int32) from by decide)]
      exact ⟨rfl, K, rfl, hK, xTf_TM hB hK hM⟩
  have q := key 0 (Nat.zero_le _)
  have e : drM K 0 = K := by
    funext o k
    exact if_neg (fun q => absurd q.2.1 (Nat.not_lt_zero _))
  rw [e] at q
  exact q
theorem t_backM {B : xAb} {J : xI} {L : xL} {z : Bool × Bool × Nat} (hB : abOK B) (hz : z.1 = true) (hM : xTM J 112 B) : xCd 4 297 [.ref 66] (xS J L z) (fun r τ => r = some (.int 1) ∧ ∃ K, τ = xS (drM K 8) L z ∧ xTf J K 66 112 ∧ xTM K 66 B) := by
  obtain ⟨x, y, N⟩ := z
  have hz : x = true := hz
  subst hz
  cases y
  · exact t_back_10 (A := B) hB hM
  · exact t_back_11 (A := B) hB hM
theorem pr_back : xPq 175 297 [] := by
  intro c A I L z hc h
  have hA := h.1.1
  have h9 : I 9 11 = (if z.1 = true then 1 else 0) := h.1.2.2.2.2.2.2.1
  by_cases hz : z.1 = true
  · obtain ⟨hb, hs, ha, hcc, ⟨t, t1, t2⟩⟩ := h
    obtain ⟨h0, h1, h2, h3, h4, h5, h6, h7⟩ := hb
    obtain ⟨B, hB, bX, bM⟩ := h7 hz
    refine c_X8_back (d := 29) (g_X8_back_0 (by decide) ?_)
    rw [if_pos hz] at h9
    rw [h9, if_neg (by decide)]
    refine xuse t_take_10_19 (by decide) ?_
    rintro _ _ ⟨rfl, J, rfl, hJ⟩
    refine g_X8_back_25 (by decide) ?_
    have jX := xTk_TX hB hJ bX
    have j4 : J 10 4 = Int32.ofNat (ab_tell B).length := jX.1.2.2.2.2
    have n4 : (ab_tell B).length ≤ 4 := hB.2.2.2.2.2.2.2.2.2.1
    rw [j4]
    refine xuse t_drop (by decide) ?_
    rintro _ _ ⟨rfl, rfl⟩
    refine g_X8_back_39 (by decide) ?_
    have hJ1 : ∀ o k, ¬ (10 ≤ o ∧ o ≤ 18) → J o k = I o k := fun o k q => hJ.1 o k (by unfold trS; omega)
    have hD1 : ∀ o k, o ≠ 58 → drS J (ab_tell B).length 8 o k = J o k := fun o k q => if_neg (fun x => q x.1)
    have dM : xTM (drS J (ab_tell B).length 8) 112 B := xTM_sm (S := fun o k => o = 58 ∨ (10 ≤ o ∧ o ≤ 18)) (fun o k q => (hD1 o k (by omega)).trans (hJ1 o k (by omega))) (by omega) (fun o a b k => by omega) bM
    refine xuse (t_backM hB hz dM) (by decide) ?_
    rintro _ _ ⟨rfl, K, rfl, hK, kM⟩
    have hK1 : ∀ o k, ¬ ((o = 66 ∧ (k = 9 ∨ k = 10 ∨ k = 17 ∨ k = 20)) ∨ (83 ≤ o ∧ o ≤ 102)) → K o k = drS J (ab_tell B).length 8 o k := fun o k q => hK.1 o k (by unfold tfS; omega)
    have hE1 : ∀ o k, o ≠ 67 → drM K 8 o k = K o k := fun o k q => if_neg (fun x => q x.1)
    have g : ∀ o k, ¬ ((10 ≤ o ∧ o ≤ 18) ∨ o = 58 ∨ o = 67 ∨ (o = 66 ∧ (k = 9 ∨ k = 10 ∨ k = 17 ∨ k = 20)) ∨ (83 ≤ o ∧ o ≤ 102)) → drM K 8 o k = I o k := fun o k q => (hE1 o k (by omega)).trans ((hK1 o k (by omega)).trans ((hD1 o k (by omega)).trans (hJ1 o k (by omega))))
    have gg : xsm (fun o k => (10 ≤ o ∧ o ≤ 18) ∨ o = 58 ∨ o = 67 ∨ (o = 66 ∧ (k = 9 ∨ k = 10 ∨ k = 17 ∨ k = 20)) ∨ (83 ≤ o ∧ o ≤ 102)) I (drM K 8) := g
    have gJ : ∀ o k, ¬ (o = 58 ∨ o = 67 ∨ (o = 66 ∧ (k = 9 ∨ k = 10 ∨ k = 17 ∨ k = 20)) ∨ (83 ≤ o ∧ o ≤ 102)) → drM K 8 o k = J o k := fun o k q => (hE1 o k (by omega)).trans ((hK1 o k (by omega)).trans (hD1 o k (by omega)))
    refine ⟨rfl, B, drM K 8, L, z, rfl, ⟨hB, ?_, ?_, ?_, ?_, ?_, ?_, ?_⟩, ?_, ?_, ?_, t, by omega, ?_⟩
    · exact xTX_sm (S := fun o k => o = 58 ∨ o = 67 ∨ (o = 66 ∧ (k = 9 ∨ k = 10 ∨ k = 17 ∨ k = 20)) ∨ (83 ≤ o ∧ o ≤ 102)) gJ (fun k hk => by omega) (fun o a b k => by omega) jX
    · exact xTM_sm (S := fun o k => o = 67) (fun o k q => hE1 o k q) (by omega) (fun o a b k => by omega) kM
    · intro s hs
      have e := h3 s hs
      have g4 : drM K 8 10 4 = Int32.ofNat (ab_tell B).length := (gJ 10 4 (by omega)).trans j4
      have k17 : K 66 17 = Int32.ofNat (ab_tell B).length := kM.1.2.2.2
      have k80 : K 80 s = I 80 s := (hK1 80 s (by omega)).trans ((hD1 80 s (by omega)).trans (hJ1 80 s (by omega)))
      have k67 : K 67 s = I 67 s := (hK1 67 s (by omega)).trans ((hD1 67 s (by omega)).trans (hJ1 67 s (by omega)))
      have j58 : J 58 s = I 58 s := hJ1 58 s (by omega)
      have g58 : drM K 8 58 s = if I 58 s < Int32.ofNat (10 + (ab_tell B).length) then I 58 s else -1 := by
        rw [hE1 58 s (by omega), hK1 58 s (by omega)]
        unfold drS
        rw [j58]
        by_cases c : I 58 s < Int32.ofNat (10 + (ab_tell B).length)
        · rw [if_pos c, if_neg (fun q => q.2.2 c)]
        · rw [if_neg c, if_pos ⟨rfl, hs, c⟩]
      have g67 : drM K 8 67 s = if I 67 s = 2 ∧ ¬ (I 80 s < Int32.ofNat (ab_tell B).length) then 0 else I 67 s := by
        unfold drM
        rw [k17]
        by_cases c : I 67 s = 2 ∧ ¬ (I 80 s < Int32.ofNat (ab_tell B).length)
        · rw [if_pos c, if_pos ⟨rfl, hs, by rw [k67]; exact c.1, by rw [k80]; exact c.2⟩]
        · rw [if_neg c, if_neg (fun q => c ⟨by rw [← k67]; exact q.2.2.1, by rw [← k80]; exact q.2.2.2⟩), k67]
      unfold xShM at e ⊢
      rw [g 59 s (by omega), g 68 s (by omega), g 69 s (by omega), g 80 s (by omega), g4, g58, g67]
      rcases e with ⟨e1, e2⟩ | ⟨v, n, e1, e2, e3, e4, e5, e6, e7, e8⟩ | ⟨u, e1, e2, e3, e4, e5⟩
      · refine Or.inl ⟨?_, ?_⟩
        · rw [e1]; split <;> rfl
        · rw [e2]; split <;> rfl
      · refine Or.inr (Or.inl ⟨v, n, e1, e2, ?_, e4, ?_, e6, e7, e8⟩)
        · rw [e3, if_pos ((xv_lt (by omega) (by omega)).mpr (by omega))]
        · rw [e5, if_neg (fun q => absurd q.1 (by decide))]
      · rw [e3, e4, e5]
        by_cases c : u < (ab_tell B).length
        · refine Or.inr (Or.inr ⟨u, e1, (xv_lt (by omega) (by omega)).mpr c, ?_, ?_, rfl⟩)
          · rw [if_pos ((xv_lt (by omega) (by omega)).mpr (by omega))]
          · rw [if_neg (fun q => q.2 ((xv_lt (by omega) (by omega)).mpr c))]
        · refine Or.inl ⟨?_, ?_⟩
          · rw [if_neg (fun q => by have := (xv_lt (by omega) (by omega)).mp q; omega)]
          · rw [if_pos ⟨rfl, fun q => by have := (xv_lt (by omega) (by omega)).mp q; omega⟩]
    · intro i hi; rw [g 65 i (by omega), g 82 _ (by omega)]; exact h4 i hi
    · obtain ⟨n, a, b, d, e⟩ := h5
      refine ⟨n, a, ?_, ?_, ?_⟩
      · rw [g 61 0 (by omega)]; exact b
      · rw [g 66 7 (by omega)]; exact d
      · intro i hi; rw [g 62 i (by omega), g 81 i (by omega)]; exact e i hi
    · rw [g 9 11 (by omega)]; exact h6
    · intro _
      exact ⟨B, hB, xTX_sm gg (fun k hk => by omega) (fun o a b k => by omega) bX, xTM_sm gg (by omega) (fun o a b k => by omega) bM⟩
    · exact xShf_sm gg (fun k => by omega) hs
    · exact xAbv_sm gg (fun k => by omega) ha
    · refine Or.inl ((gJ 10 5 (by omega)).trans hJ.2.1)
    · exact xTal_sm gg (fun o k e => by omega) t2
  · rw [if_neg hz] at h9
    obtain ⟨x, y, N⟩ := z
    have hz : x = false := by
      cases x
      · rfl
      · exact absurd rfl hz
    subst hz
    refine pr_q h 5 0 ?_ ?_
    · refine c_X8_back (d := 29) (g_X8_back_0 (by decide) ?_)
      rw [h9, if_pos rfl]
      exact oX_no h (by decide) (by decide)
    · intro J hJ hM
      cases y
      · exact c_X9_back_00 (d := 29) (g_X9_back_00_0 (by decide) (oM_no (xsm_refl _ _) (by decide) (by decide)))
      · exact c_X9_back_01 (d := 29) (g_X9_back_01_0 (by decide) (oM_no (xsm_refl _ _) (by decide) (by decide)))
