theorem xk24_ : ∀ o, o < 204 → xkind o = 24 → 3 ≤ o ∧ o < 9 := by decide +kernel
theorem xk24 (o : Nat) (h : xkind o = 24) : ∃ j, j < 6 ∧ o = 3 + j := by
  rcases Nat.lt_or_ge o 204 with q | q
  · obtain ⟨h1, h2⟩ := xk24_ o q h
    exact ⟨o - 3, by omega, by omega⟩
  · rw [xkind_big o q] at h
    cases h
theorem xs_recv {E : String} {q : Nat} {A : Nat → Prop} {s : State} {H : Heap} {locs : List Loc} (h : va_O E q A s s.heap) (hS : va_S A s.heap H locs) : ∃ cell : Cell, H[q]? = some cell ∧ cell.vm.isStatics = false ∧ s.vm.findClass E = some cell.cls := by
  obtain ⟨cell, h1, h2, h3, -⟩ := h.kept hS.2.1
  exact ⟨cell, h1, h2, h3⟩
theorem x_min (x y : Int32) : (if x < y then x else y) = (if y < x then y else x) := by
  by_cases h1 : x < y
  · rw [if_pos h1, if_neg (fun h2 => Int32.lt_irrefl (Int32.lt_trans h1 h2))]
  · by_cases h2 : y < x
    · rw [if_neg h1, if_pos h2]
    · rw [if_neg h1, if_neg h2]
      exact Int32.le_antisymm (Int32.not_lt.mp h2 |> fun h => Int32.not_lt.mp h1) (Int32.not_lt.mp h2)
theorem xs_native {p : Program} {l : Launch} {e : Env} {R : Room} {s : State} {m : MethodId} {args : Array Value} {below : List Frame} {meth : Method} {c : Code} {Qf : State → Prop} {G : xG} {base : Nat} {f : Nat → Nat → Int32} {N : Nat} {ρ0 : Nat → Nat} {σ0 : xH} {adV : Nat → Nat} {cc : ByteArray} {own : String} {ini : Bool} {nL mc ms d : Nat} {Ts : List Cond} (X : xCtx p R s m args meth c G base f N ρ0 adV cc own ini nL mc ms d Ts) {pc fn i : Nat} {ls : List (Option Value)} {st : List Value} {σ : xH} {b : Nat × Nat}
    (hw : (decode cc pc = .ok (.invokestatic i, 3) ∧ ((fn = 904 ∧ Cond.methodLink own i Lib.Math.max.name ∈ xW) ∨ (fn = 905 ∧ Cond.methodLink own i Lib.Math.min.name ∈ xW) ∨ (fn = 906 ∧ Cond.methodLink own i arraycopyName ∈ xW))) ∨ (decode cc pc = .ok (.invokevirtual i, 3) ∧ ((fn = 902 ∧ Cond.methodLink own i yJ0_length_8abf5 ∈ xW) ∨ (fn = 903 ∧ Cond.methodLink own i yJ0_charAt_5068e ∈ xW))))
    (h : xnative (xKM p l e R s m args below meth c Qf G base f N ρ0 σ0 nL mc ms) fn pc ls st σ b) : (xKM p l e R s m args below meth c Qf G base f N ρ0 σ0 nL mc ms) pc ls st σ b := by
  obtain ⟨hx, hb, hml, hown, hts, hW, hO, hcs, hfr, hin⟩ := X
  unfold xnative at h
  cases hle : Nat.ble st.length 9 with
  | false => rw [hle] at h; exact h.elim
  | true =>
    rw [hle] at h
    have h9r := Nat.le_of_ble_eq_true hle
    simp only [cond_true] at h
    split at h
    · rename_i o r
      have hd : decode cc pc = .ok (.invokevirtual i, 3) ∧ Cond.methodLink own i yJ0_length_8abf5 ∈ xW := by
        rcases hw with ⟨-, hw | hw | hw⟩ | ⟨hd, hw | hw⟩
        · exact absurd hw.1 (by decide)
        · exact absurd hw.1 (by decide)
        · exact absurd hw.1 (by decide)
        · exact ⟨hd, hw.2⟩
        · exact absurd hw.1 (by decide)
      cases hk : Nat.beq (xkind o) 24 && Nat.ble r.length 4 with
      | false => rw [hk] at h; exact h.elim
      | true =>
        rw [hk] at h
        rw [Bool.and_eq_true, Nat.ble_eq] at hk
        simp only [cond_true] at h
        obtain ⟨j, hj, rfl⟩ := xk24 o (Nat.eq_of_beq_eq_true hk.1)
        refine xs_stk h (fun q => xok_c trivial (xok_t q)) (fun ρ H locs cells slots mls hR hS hl hlo hst hE hcc hss k => ?_)
        have hr := xcat8 (ρ := ρ) hk.2
        have hO' := xOld_congr hE.2 hO
        have h6 := hO'.2.2.2.2.2.2.2.2.1.1 j hj
        refine x_callQ (W.runV (C := "java/lang/String") (b := ρ (3 + j)) (As := []) (rest := r.map (xemb ρ)) ⟨hx, hb, hml, hown, hts⟩ (xs_length (ρ := ρ) hj) ⟨x_cb hts hW ws_c2 ws_iJ0 hd.2 (by decide +kernel) ⟨by show 2 + 1 ≤ _; omega, by show 8 + (1 + 11) + 60 ≤ _; omega⟩, hts _ (hW _ ws_m2), hts _ (hW _ ws_v2)⟩ ⟨xsP_blind, xs_recv h6.1 hS, fun U hU hWU => ⟨rfl, xOld_moved hO' hWU (by rw [hU]; exact hS)⟩⟩ rfl rfl hl.1 rfl (lv_room hr) hd.1 ⟨by have := hcs.1; omega, by have := hcs.2; omega⟩) ?_
        rw [(xs_len5 j hj).2] at k
        exact k
    · rename_i ii o r
      have hd : decode cc pc = .ok (.invokevirtual i, 3) ∧ Cond.methodLink own i yJ0_charAt_5068e ∈ xW := by
        rcases hw with ⟨-, hw | hw | hw⟩ | ⟨hd, hw | hw⟩
        · exact absurd hw.1 (by decide)
        · exact absurd hw.1 (by decide)
        · exact absurd hw.1 (by decide)
        · exact absurd hw.1 (by decide)
        · exact ⟨hd, hw.2⟩
      cases hk : Nat.beq (xkind o) 24 && Nat.ble r.length 4 with
      | false => rw [hk] at h; exact h.elim
      | true =>
        rw [hk] at h
        rw [Bool.and_eq_true, Nat.ble_eq] at hk
        simp only [cond_true] at h
        obtain ⟨j, hj, rfl⟩ := xk24 o (Nat.eq_of_beq_eq_true hk.1)
        split at h
        · rename_i hin'
          rw [(xs_len5 j hj).2] at hin'
          have h55 := (xs_len5 j hj).1
          obtain ⟨q, hq, rfl⟩ := vp_in_of (x := ii) hin' (by omega)
          rw [nI_clamp (by omega)] at h
          refine xs_stk h (fun q => xok_c trivial (xok_t (xok_t q))) (fun ρ H locs cells slots mls hR hS hl hlo hst hE hcc hss k => ?_)
          have hr := xcat8 (ρ := ρ) hk.2
          have hO' := xOld_congr hE.2 hO
          have h6 := hO'.2.2.2.2.2.2.2.2.1.1 j hj
          exact x_callQ (W.runV (C := "java/lang/String") (b := ρ (3 + j)) (As := [.int (nI q)]) (rest := r.map (xemb ρ)) ⟨hx, hb, hml, hown, hts⟩ (xs_char (ρ := ρ) hj hq) ⟨x_cb (n := 1) hts hW ws_c6 ws_iJ0 hd.2 (by decide +kernel) ⟨by show 4 + 1 ≤ _; omega, by show 8 + (2 + 11) + 140 ≤ _; omega⟩, hts _ (hW _ ws_m6), hts _ (hW _ ws_v6)⟩ ⟨xsP_blind, xs_recv h6.1 hS, fun U hU hWU => ⟨rfl, xOld_moved hO' hWU (by rw [hU]; exact hS)⟩⟩ rfl rfl hl.1 rfl (lv_room hr) hd.1 ⟨by have := hcs.1; omega, by have := hcs.2; omega⟩) k
        · exact h.elim
    · rename_i y x r
      have hd : decode cc pc = .ok (.invokestatic i, 3) ∧ Cond.methodLink own i Lib.Math.max.name ∈ xW := by
        rcases hw with ⟨hd, hw | hw | hw⟩ | ⟨-, hw | hw⟩
        · exact ⟨hd, hw.2⟩
        all_goals exact absurd hw.1 (by decide)
      refine xs_stk h (fun q => xok_c trivial (xok_t (xok_t q))) (fun ρ H locs cells slots mls hR hS hl hlo hst hE hcc hss k => ?_)
      have hr := xcat18 (ρ := ρ) (rest := r) (by simp only [List.length_cons] at h9r; omega)
      exact va_mmax hx hb (hml.trans hl.1.symm) hown (hts _ (hW _ hd.2)) (hts _ (hW _ xw_max1)) (hts _ (hW _ xw_max2)) (hts _ (hW _ xw_max3)) (by omega) (by omega) (by have := hcs.1; omega) (by have := hcs.2; omega) hd.1 k
    · rename_i y x r
      have hd : decode cc pc = .ok (.invokestatic i, 3) ∧ Cond.methodLink own i Lib.Math.min.name ∈ xW := by
        rcases hw with ⟨hd, hw | hw | hw⟩ | ⟨-, hw | hw⟩
        · exact absurd hw.1 (by decide)
        · exact ⟨hd, hw.2⟩
        all_goals exact absurd hw.1 (by decide)
      refine xs_stk h (fun q => xok_c trivial (xok_t (xok_t q))) (fun ρ H locs cells slots mls hR hS hl hlo hst hE hcc hss k => ?_)
      have hr := xcat18 (ρ := ρ) (rest := r) (by simp only [List.length_cons] at h9r; omega)
      rw [show (if x < y then x else y) = (if y < x then y else x) from x_min x y] at k
      exact va_mmin hx hb (hml.trans hl.1.symm) hown (hts _ (hW _ hd.2)) (hts _ (hW _ xw_min1)) (hts _ (hW _ xw_max2)) (hts _ (hW _ xw_min3)) (by omega) (by omega) (by have := hcs.1; omega) (by have := hcs.2; omega) hd.1 k
    · rename_i n dp dd sp ss r
      have hd : decode cc pc = .ok (.invokestatic i, 3) ∧ Cond.methodLink own i arraycopyName ∈ xW := by
        rcases hw with ⟨hd, hw | hw | hw⟩ | ⟨-, hw | hw⟩
        · exact absurd hw.1 (by decide)
        · exact absurd hw.1 (by decide)
        · exact ⟨hd, hw.2⟩
        all_goals exact absurd hw.1 (by decide)
      have hr := fun ρ => xcat18 (ρ := ρ) (rest := r) (by simp only [List.length_cons] at h9r; omega)
      cases hi : xis σ ss 20 && xis σ dd 20 && Nat.blt 8 dd with
      | true =>
        rw [hi] at h
        rw [Bool.and_eq_true, Bool.and_eq_true] at hi
        simp only [cond_true] at h
        split at h
        · rename_i hcp
          obtain ⟨c1, c2, c3, c4, c5⟩ := hcp
          obtain ⟨hals, hks⟩ := xis_iff hi.1.1
          obtain ⟨hald, hkd⟩ := xis_iff hi.1.2
          have h9s : 9 ≤ ss := xlow_kind hks (by omega)
          have h9d : 9 ≤ dd := Nat.le_of_ble_eq_true hi.2
          rw [xlen_eq (Nat.lt_of_lt_of_le (by decide) h9s)] at c4
          rw [xlen_eq (Nat.lt_of_lt_of_le (by decide) h9d)] at c5
          intro ρ H locs cells slots mls hR hS hc hs hn hl hlo hst hE
          obtain ⟨q0, hq0⟩ := xids_of hR ⟨h9s, hals⟩
          obtain ⟨q1, hq1⟩ := xids_of hR ⟨h9d, hald⟩
          have hnf : nativeFrameWords "java/lang/System" "arraycopy" 5 ≤ 100 := by decide
          have hr' := hr ρ
          refine va_copyi hx hb (hml.trans hl.1.symm) hown (hts _ (hW _ hd.2)) (hts _ (hW _ xw_ac1)) (hts _ (hW _ xw_ac2)) (hts _ (hW _ xw_ac3)) hO.2.1 (xwsl_P hR) (xwsl_D hR) hS q0 q1 0 0 (by rw [xwsl_of hq0, xentry_20 hks]) (by rw [xwsl_of hq1, xentry_20 hkd]) rfl rfl rfl c3 c2 c1 c4 c5 (fun _ _ => rfl) (by omega) (by omega) hd.1 (fun H1 locs1 hP1 _ hS1 => ?_)
          have ho := xset_out hR hq1 hP1
          refine h ρ H1 locs1 cells slots mls (xRel_I hR ⟨h9d, hald⟩ (fun j hj => by funext q; exact if_neg (fun z => hj z.1)) ⟨?_, ho.2⟩) hS1 hc hs hn hl hlo (xok_t (xok_t (xok_t (xok_t (xok_t hst))))) hE
          rw [xentry_20 hkd]
          have e : xcpy σ.1 ss sp.toNatClampNeg dd dp.toNatClampNeg n.toNatClampNeg dd = va_cpy (σ.1 ss) (σ.1 dd) sp.toNatClampNeg dp.toNatClampNeg n.toNatClampNeg := by
            funext k
            unfold xcpy va_cpy
            by_cases hk : dp.toNatClampNeg ≤ k ∧ k < dp.toNatClampNeg + n.toNatClampNeg
            · rw [if_pos ⟨rfl, hk⟩, if_pos hk]
            · rw [if_neg (fun z => hk z.2), if_neg hk]
          show va_at G.1 vwCl (ρ dd, .inl (_, xslots dd, .inl (xcpy σ.1 ss sp.toNatClampNeg dd dp.toNatClampNeg n.toNatClampNeg dd))) H1
          rw [e]
          exact ho.1
        · exact h.elim
      | false =>
        rw [hi] at h
        simp only [cond_false] at h
        cases hi2 : xis σ ss 21 && xis σ dd 21 && Nat.blt 8 dd with
        | false => rw [hi2] at h; exact h.elim
        | true =>
          rw [hi2] at h
          have hi := hi2
          rw [Bool.and_eq_true, Bool.and_eq_true] at hi
          simp only [cond_true] at h
          split at h
          · rename_i hcp
            obtain ⟨c1, c2, c3, c4, c5⟩ := hcp
            obtain ⟨hals, hks⟩ := xis_iff hi.1.1
            obtain ⟨hald, hkd⟩ := xis_iff hi.1.2
            have h9s : 9 ≤ ss := xlow_kind hks (by omega)
            have h9d : 9 ≤ dd := Nat.le_of_ble_eq_true hi.2
            rw [xlen_eq (Nat.lt_of_lt_of_le (by decide) h9s)] at c4
            rw [xlen_eq (Nat.lt_of_lt_of_le (by decide) h9d)] at c5
            intro ρ H locs cells slots mls hR hS hc hs hn hl hlo hst hE
            obtain ⟨q0, hq0⟩ := xids_of hR ⟨h9s, hals⟩
            obtain ⟨q1, hq1⟩ := xids_of hR ⟨h9d, hald⟩
            have hnf : nativeFrameWords "java/lang/System" "arraycopy" 5 ≤ 100 := by decide
            have hr' := hr ρ
            refine va_copyl hx hb (hml.trans hl.1.symm) hown (hts _ (hW _ hd.2)) (hts _ (hW _ xw_ac1)) (hts _ (hW _ xw_ac2)) (hts _ (hW _ xw_ac3)) hO.2.1 (xwsl_P hR) (xwsl_D hR) hS q0 q1 1 1 (by rw [xwsl_of hq0, xentry_21 hks]) (by rw [xwsl_of hq1, xentry_21 hkd]) rfl rfl rfl c3 c2 c1 c4 c5 (fun _ _ => rfl) (by omega) (by omega) hd.1 (fun H1 locs1 hP1 _ hS1 => ?_)
            have ho := xset_out hR hq1 hP1
            refine h ρ H1 locs1 cells slots mls (xRel_L hR (fun j hj => by funext q; exact if_neg (fun z => hj z.1)) ⟨?_, ho.2⟩) hS1 hc hs hn hl hlo (xok_t (xok_t (xok_t (xok_t (xok_t hst))))) hE
            rw [xentry_21 hkd]
            have e : xcpl σ.2.1 ss sp.toNatClampNeg dd dp.toNatClampNeg n.toNatClampNeg dd = va_cpy (σ.2.1 ss) (σ.2.1 dd) sp.toNatClampNeg dp.toNatClampNeg n.toNatClampNeg := by
              funext k
              unfold xcpl va_cpy
              by_cases hk : dp.toNatClampNeg ≤ k ∧ k < dp.toNatClampNeg + n.toNatClampNeg
              · rw [if_pos ⟨rfl, hk⟩, if_pos hk]
              · rw [if_neg (fun z => hk z.2), if_neg hk]
            show va_at G.1 vwCl (ρ dd, .inl (_, xslots dd, .inr (.inl (xcpl σ.2.1 ss sp.toNatClampNeg dd dp.toNatClampNeg n.toNatClampNeg dd)))) H1
            rw [e]
            exact ho.1
          · exact h.elim
    · exact h.elim
set_option maxHeartbeats 4000000 in
theorem xs_istatic {p : Program} {l : Launch} {e : Env} {R : Room} {s : State} {m : MethodId} {args : Array Value} {below : List Frame} {meth : Method} {c : Code} {Qf : State → Prop} {G : xG} {base : Nat} {f : Nat → Nat → Int32} {N : Nat} {ρ0 : Nat → Nat} {σ0 : xH} {adV : Nat → Nat} {cc : ByteArray} {own : String} {ini : Bool} {nL mc ms d : Nat} {Ts : List Cond} (X : xCtx p R s m args meth c G base f N ρ0 adV cc own ini nL mc ms d Ts) {T : List (List (Option xE))} {rt : Nat} {C : xC} {Q : xQ} (hT : xallT (xwP own ini) T) (hD : xdecT cc 0 T = true) {pc : Nat} {ls : List (Option Value)} {st : List Value} {σ : xH} {b : Nat × Nat} (hC : xMet l G base f N adV C d) {i : Nat} {len : Nat} {v : Int32} {ax : List Nat} (hf : xfetch T pc = some (.invokestatic i, len, v, ax)) (h : xstp T rt C Q (xKM p l e R s m args below meth c Qf G base f N ρ0 σ0 nL mc ms) pc ls st σ b) : (xKM p l e R s m args below meth c Qf G base f N ρ0 σ0 nL mc ms) pc ls st σ b := by
  obtain ⟨hx, hb, hml, hown, hts, hW, hO, hcs, hfr, hin⟩ := X
  obtain ⟨hd, hwb, hj⟩ := xdecT_at hD hf
  have hw := xallT_at hT hf
  unfold xstp at h
  rw [hf] at h
  dsimp only at h hd
  have h1 : len = 3 := Nat.eq_of_beq_eq_true hwb
  subst h1
  split at h
  · rename_i c' n z1 z2
    have hw : xcal c' n ∧ Cond.methodLink own i (xyn c') ∈ xW ∧ Cond.static (xyn c') ∈ xW := hw
    obtain ⟨hcal, w1, w2⟩ := hw
    cases hle : Nat.ble n st.length with
    | false => rw [hle] at h; exact h.elim
    | true =>
      rw [hle] at h
      obtain ⟨xs, hp1, hp2, hp3⟩ := xpop_spec n [] st (Nat.le_of_ble_eq_true hle)
      rw [List.append_nil] at hp1
      rw [hp1] at h
      generalize (xpopN n [] st).2 = rest at h hp2
      subst hp2
      refine xcall_go hC hcal.2.2.2 hcs h (fun q => ⟨fun u hu => q u (List.mem_append_left _ (List.mem_reverse.mpr hu)), fun u hu => q u (List.mem_append_right _ hu)⟩) ?_
      intro F ρ H locs cells slots mls hR hS hE hsz hoa hcat hroom hM
      exact ⟨_, W.runS (As := xs.map (xemb ρ)) (rest := rest.map (xemb ρ)) ⟨hx, hb, hml, hown, hts⟩ hM ⟨xcallB hts hW hcal w1 hfr, hts _ (hW _ w2)⟩ ⟨xPc_blind, fun U hU hWU => xOld_pre hO hE hR hS hoa hU hWU⟩ rfl (by rw [List.length_map]; exact hp3) hsz (by show List.map (xemb ρ) (xs.reverse ++ rest) = _; rw [List.map_append, List.map_reverse]) (lv_room hcat) hd hroom⟩
  · exact xs_native ⟨hx, hb, hml, hown, hts, hW, hO, hcs, hfr, hin⟩ (Or.inl ⟨hd, hw⟩) h
  · exact h.elim

set_option maxHeartbeats 4000000 in
theorem xs_ivirtual {p : Program} {l : Launch} {e : Env} {R : Room} {s : State} {m : MethodId} {args : Array Value} {below : List Frame} {meth : Method} {c : Code} {Qf : State → Prop} {G : xG} {base : Nat} {f : Nat → Nat → Int32} {N : Nat} {ρ0 : Nat → Nat} {σ0 : xH} {adV : Nat → Nat} {cc : ByteArray} {own : String} {ini : Bool} {nL mc ms d : Nat} {Ts : List Cond} (X : xCtx p R s m args meth c G base f N ρ0 adV cc own ini nL mc ms d Ts) {T : List (List (Option xE))} {rt : Nat} {C : xC} {Q : xQ} (hT : xallT (xwP own ini) T) (hD : xdecT cc 0 T = true) {pc : Nat} {ls : List (Option Value)} {st : List Value} {σ : xH} {b : Nat × Nat} (hC : xMet l G base f N adV C d) {i : Nat} {len : Nat} {v : Int32} {ax : List Nat} (hf : xfetch T pc = some (.invokevirtual i, len, v, ax)) (h : xstp T rt C Q (xKM p l e R s m args below meth c Qf G base f N ρ0 σ0 nL mc ms) pc ls st σ b) : (xKM p l e R s m args below meth c Qf G base f N ρ0 σ0 nL mc ms) pc ls st σ b := by
  obtain ⟨hx, hb, hml, hown, hts, hW, hO, hcs, hfr, hin⟩ := X
  obtain ⟨hd, hwb, hj⟩ := xdecT_at hD hf
  have hw := xallT_at hT hf
  unfold xstp at h
  rw [hf] at h
  dsimp only at h hd
  have h1 : len = 3 := Nat.eq_of_beq_eq_true hwb
  subst h1
  split at h
  · rename_i c' n k z2
    have hw : xcal c' n ∧ Cond.methodLink own i (xyn c') ∈ xW ∧ Cond.instanceMethod (xyn c') ∈ xW ∧ Cond.selects (xyn c').cls (xyn c') (xyn c') ∈ xW ∧ (vwCl[k]? = some (xcn k) ∧ (xyn c').cls = (xcn k).1) := hw
    obtain ⟨hcal, w1, w2, w3, hcl, hceq⟩ := hw
    have hc10 := xvw _ hcl
    split at h
    · rename_i o as hpop
      cases hle : Nat.ble (n + 1) st.length && xis σ o k with
      | false => rw [hle] at h; exact h.elim
      | true =>
        rw [hle] at h
        rw [Bool.and_eq_true] at hle
        obtain ⟨hal, hkd⟩ := xis_iff hle.2
        have h9 : 9 ≤ o := xlow_kind hkd (Or.inl hc10)
        obtain ⟨xs, hp1, hp2, hp3⟩ := xpop_spec (n + 1) [] st (Nat.le_of_ble_eq_true hle.1)
        rw [List.append_nil] at hp1
        rw [hpop] at hp1
        generalize (xpopN (n + 1) [] st).2 = rest at h hp2
        subst hp1
        subst hp2
        have has : as.length = n := by simpa using hp3
        refine xcall_go hC hcal.2.2.2 hcs h (fun q => ⟨fun u hu => q u (List.mem_append_left _ (List.mem_reverse.mpr hu)), fun u hu => q u (List.mem_append_right _ hu)⟩) ?_
        intro F ρ H locs cells slots mls hR hS hE hsz hoa hcat hroom hM
        have hrecv : ∃ cellB : Cell, H[ρ o]? = some cellB ∧ cellB.vm.isStatics = false ∧ s.vm.findClass (xyn c').cls = some cellB.cls := by
          have hat := hR.1 o ⟨h9, hal⟩
          rw [xentry_o (by omega), hkd] at hat
          obtain ⟨r', q0, cell, q1, q2, q3, -⟩ := hat
          refine ⟨cell, q1, by rw [q3]; rfl, ?_⟩
          have hKn := (hO.2.1.1 k _ hcl).2.1
          rw [hceq, hKn, q2]
        exact ⟨_, W.runV (C := (xyn c').cls) (b := ρ o) (As := as.map (xemb ρ)) (rest := rest.map (xemb ρ)) ⟨hx, hb, hml, hown, hts⟩ hM ⟨xcallB hts hW hcal w1 hfr, hts _ (hW _ w2), hts _ (hW _ w3)⟩ ⟨xPc_blind, hrecv, fun U hU hWU => xOld_pre hO hE hR hS hoa hU hWU⟩ rfl (by rw [List.length_map]; exact has) hsz (by show List.map (xemb ρ) ((Value.ref o :: as).reverse ++ rest) = _; rw [List.map_append, List.map_reverse, List.map_cons, List.reverse_cons, List.append_assoc]; rfl) (lv_room hcat) hd hroom⟩
    · exact h.elim
  · exact xs_native ⟨hx, hb, hml, hown, hts, hW, hO, hcs, hfr, hin⟩ (Or.inr ⟨hd, hw⟩) h
  · exact h.elim

set_option maxHeartbeats 4000000 in
theorem xs_ispecial {p : Program} {l : Launch} {e : Env} {R : Room} {s : State} {m : MethodId} {args : Array Value} {below : List Frame} {meth : Method} {c : Code} {Qf : State → Prop} {G : xG} {base : Nat} {f : Nat → Nat → Int32} {N : Nat} {ρ0 : Nat → Nat} {σ0 : xH} {adV : Nat → Nat} {cc : ByteArray} {own : String} {ini : Bool} {nL mc ms d : Nat} {Ts : List Cond} (X : xCtx p R s m args meth c G base f N ρ0 adV cc own ini nL mc ms d Ts) {T : List (List (Option xE))} {rt : Nat} {C : xC} {Q : xQ} (hT : xallT (xwP own ini) T) (hD : xdecT cc 0 T = true) {pc : Nat} {ls : List (Option Value)} {st : List Value} {σ : xH} {b : Nat × Nat} (hC : xMet l G base f N adV C d) {i : Nat} {len : Nat} {v : Int32} {ax : List Nat} (hf : xfetch T pc = some (.invokespecial i, len, v, ax)) (h : xstp T rt C Q (xKM p l e R s m args below meth c Qf G base f N ρ0 σ0 nL mc ms) pc ls st σ b) : (xKM p l e R s m args below meth c Qf G base f N ρ0 σ0 nL mc ms) pc ls st σ b := by
  obtain ⟨hx, hb, hml, hown, hts, hW, hO, hcs, hfr, hin⟩ := X
  obtain ⟨hd, hwb, hj⟩ := xdecT_at hD hf
  have hw := xallT_at hT hf
  unfold xstp at h
  rw [hf] at h
  dsimp only at h hd
  have h1 : len = 3 := Nat.eq_of_beq_eq_true hwb
  subst h1
  split at h
  · rename_i c' n k z2
    have hw : xcal c' n ∧ xrty c' = none ∧ (xyn c').name = "<init>" ∧ Cond.methodLink own i (xyn c') ∈ xW ∧ Cond.instanceMethod (xyn c') ∈ xW ∧ (vwCl[k]? = some (xcn k) ∧ (xyn c').cls = (xcn k).1) := hw
    obtain ⟨hcal, hrt, hnm, w1, w2, hcl, hceq⟩ := hw
    have hc10 := xvw _ hcl
    split at h
    · rename_i o as hpop
      cases hle : Nat.ble (n + 1) st.length && xis σ o k with
      | false => rw [hle] at h; exact h.elim
      | true =>
        rw [hle] at h
        rw [Bool.and_eq_true] at hle
        obtain ⟨hal, hkd⟩ := xis_iff hle.2
        have h9 : 9 ≤ o := xlow_kind hkd (Or.inl hc10)
        obtain ⟨xs, hp1, hp2, hp3⟩ := xpop_spec (n + 1) [] st (Nat.le_of_ble_eq_true hle.1)
        rw [List.append_nil] at hp1
        rw [hpop] at hp1
        generalize (xpopN (n + 1) [] st).2 = rest at h hp2
        subst hp1
        subst hp2
        have has : as.length = n := by simpa using hp3
        have hcb := xcallB hts hW hcal w1 hfr (own := own) (R := R) (s := s) (args := args) (ix := i) (d := d)
        rw [hrt] at hcb
        refine xcall_go hC hcal.2.2.2 hcs h (fun q => ⟨fun u hu => q u (List.mem_append_left _ (List.mem_reverse.mpr hu)), fun u hu => q u (List.mem_append_right _ hu)⟩) ?_
        intro F ρ H locs cells slots mls hR hS hE hsz hoa hcat hroom hM
        exact ⟨_, W.runI (b := ρ o) (As := as.map (xemb ρ)) (rest := rest.map (xemb ρ)) ⟨hx, hb, hml, hown, hts⟩ hM ⟨hcb, hnm, hts _ (hW _ w2)⟩ ⟨xPc_blind, fun U hU hWU => xOld_pre hO hE hR hS hoa hU hWU⟩ rfl (by rw [List.length_map]; exact has) hsz (by show List.map (xemb ρ) ((Value.ref o :: as).reverse ++ rest) = _; rw [List.map_append, List.map_reverse, List.map_cons, List.reverse_cons, List.append_assoc]; rfl) (lv_room hcat) hd hroom⟩
    · exact h.elim
  · split at h
    · rename_i o r
      cases hle : Nat.ble r.length 4 with
      | false => rw [hle] at h; exact h.elim
      | true =>
        rw [hle] at h
        intro ρ H locs cells slots mls hR hS hc hs hn hl hlo hst hE
        have h8 := xcat8 (ρ := ρ) (Nat.le_of_ble_eq_true hle)
        refine W.objInit hx hb hown (hts _ (hW _ hw)) (hts _ (hW _ xw_oi)) (hts _ (hW _ xw_oc)) rfl (by show mls.size = _; rw [hml]; exact hl.1) rfl hd (by omega) (by show 2 * 0 + _ + 12 ≤ _; omega) ?_
        exact h ρ H locs cells slots mls hR hS hc hs hn hl hlo (xok_t hst) hE
    · exact h.elim
  · exact h.elim
