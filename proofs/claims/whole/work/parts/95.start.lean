set_option maxHeartbeats 8000000 in
theorem whole_start {p : Program} {e : Env} {s : State} {m : MethodId} {below : List Frame} {meth : Method} {c : Code} (l : Launch) (hflags : l.flags = flags0) {b L : Nat} {xs : Nat → Int32} (hL : L ≤ 3072) (C0 : lw_At p s m meth c b L xs) : W p l e room_1 s m #[Value.ref b] below meth c s.heap [] 0 0 (lw_Z below #[Value.ref b] s) (entryFrame m ([Value.ref b] : List Value).toArray 4) := by
  obtain ⟨hx, hb, hr, hml, hown, hts, hX, hbl, hlocks, hgv⟩ := C0
  have hs := flat_of_before _ hgv
  have hA : ∀ a : Nat, a < s.heap.size → ¬ xA s.heap.size a := fun a h => Nat.not_le.mpr h
  obtain ⟨G, hG⟩ := x_cls hts
  obtain ⟨tA, zA, rA⟩ := x_rowA (A := xA s.heap.size) hs hts hA
  obtain ⟨tS, zS, rS⟩ := x_rowS (A := xA s.heap.size) hs hts hA
  obtain ⟨adK, adV, hSt, he1, he2⟩ := x_strs (A := xA s.heap.size) hs hA
  obtain ⟨vF, hvF, hvR⟩ := Cond.isRef_spec (hs (Cond.isRef (.static "jdk/internal/util/Preconditions" "SIOOBE_FORMATTER" "Ljava/util/function/BiFunction;")) (by decide +kernel))
  have zF := va_Zof (A := xA s.heap.size) (hts _ xl_F) (hts _ xn_F) hvF hA
  have zC := va_Zof (A := xA s.heap.size) (hts _ xl_C) (hts _ xn_C) (va_eqi (hs (Cond.eq (.static "java/lang/String" "COMPACT_STRINGS" "Z") (.int 1)) (by decide +kernel))) hA
  have hρ : ∃ ρ : Nat → Nat, ρ 0 = b ∧ ρ 1 = tA ∧ ρ 2 = tS ∧ ∀ i, ρ (3 + i) = adK i := ⟨fun z => if z = 0 then b else if z = 1 then tA else if z = 2 then tS else adK (z - 3), rfl, rfl, rfl, fun i => by
    dsimp only
    rw [if_neg (by omega), if_neg (by omega), if_neg (by omega), show 3 + i - 3 = i by omega]⟩
  obtain ⟨ρ, r0, r1, r2, r3⟩ := hρ
  have hO : xOld G s.heap.size (xf0 xs) L ρ adV s := by
    refine ⟨Nat.le_refl _, hG, hts _ xi_oI, hts _ xi_oJ, ⟨by rw [r0]; exact hX, by rw [r0]; exact hbl⟩, ⟨by rw [r1]; exact zA, by rw [r1]; exact rA⟩, ⟨by rw [r2]; exact zS, by rw [r2]; exact rS⟩, fun q hq => ?_, ⟨fun i hi => ?_, fun i j hi hj e => ?_⟩, zC, vF, zF, ?_⟩
    · have hall : ∀ q ∈ xstrs, ∃ i, i < 6 ∧ q.2.2.2 = 3 + i ∧ ((q.1 = "TheOneWithout$Tape" ∧ q.2.1 = xks.getD i 0 ∧ Cond.stringRef "TheOneWithout$Tape" (xks.getD i 0) q.2.2.1 ∈ lw_tbl) ∨ (q.1 = "TheOneWithoutModel" ∧ q.2.1 = xkm.getD i 0 ∧ Cond.stringRef "TheOneWithoutModel" (xkm.getD i 0) q.2.2.1 ∈ lw_tbl)) := by
        intro q hq
        simp only [xstrs, List.mem_cons, List.not_mem_nil, or_false] at hq
        rcases hq with rfl | rfl | rfl | rfl | rfl | rfl | rfl | rfl | rfl | rfl | rfl | rfl
        · exact ⟨0, by decide, rfl, Or.inr ⟨rfl, rfl, xr_0_X9⟩⟩
        · exact ⟨1, by decide, rfl, Or.inr ⟨rfl, rfl, xr_1_X9⟩⟩
        · exact ⟨2, by decide, rfl, Or.inr ⟨rfl, rfl, xr_2_X9⟩⟩
        · exact ⟨3, by decide, rfl, Or.inr ⟨rfl, rfl, xr_3_X9⟩⟩
        · exact ⟨4, by decide, rfl, Or.inr ⟨rfl, rfl, xr_4_X9⟩⟩
        · exact ⟨5, by decide, rfl, Or.inr ⟨rfl, rfl, xr_5_X9⟩⟩
        · exact ⟨0, by decide, rfl, Or.inl ⟨rfl, rfl, xr_0_X4⟩⟩
        · exact ⟨1, by decide, rfl, Or.inl ⟨rfl, rfl, xr_1_X4⟩⟩
        · exact ⟨2, by decide, rfl, Or.inl ⟨rfl, rfl, xr_2_X4⟩⟩
        · exact ⟨3, by decide, rfl, Or.inl ⟨rfl, rfl, xr_3_X4⟩⟩
        · exact ⟨4, by decide, rfl, Or.inl ⟨rfl, rfl, xr_4_X4⟩⟩
        · exact ⟨5, by decide, rfl, Or.inl ⟨rfl, rfl, xr_5_X4⟩⟩
      obtain ⟨i, hi, e1, h⟩ := hall q hq
      rw [e1, r3]
      rcases h with ⟨e2, e3, h⟩ | ⟨e2, e3, h⟩
      · rw [e2, e3]; exact vk_R.of (hts _ h) (he1 i hi)
      · rw [e2, e3]; exact vk_R.of (hts _ h) (he2 i hi)
    · dsimp only
      rw [r3]
      exact hSt.1 i hi
    · dsimp only at e
      rw [r3, r3] at e
      exact hSt.2 i j hi hj e
    · cases vF <;> first | exact Or.inl rfl | exact Or.inr ⟨_, rfl⟩ | (simp [Value.isRef] at hvR)
  have hctx : xCtx p room_1 s m #[Value.ref b] meth c G s.heap.size (xf0 xs) L ρ adV code RL false 4 600000 7302249 40 lw_tbl :=
    ⟨hx, hb, hml, hown, hts, fun w hw => (List.mem_filter.mp hw).1, hO, ⟨Nat.le_of_ble_eq_true rfl, Nat.le_of_ble_eq_true rfl⟩, ⟨Nat.le_of_ble_eq_true rfl, Nat.le_of_ble_eq_true rfl⟩, fun q => by cases q⟩
  have hl := lv_entry ([.ref b]) (n := 4) (Nat.le_of_ble_eq_true rfl)
  rw [lg_entry_eq]
  generalize (lg_sl ([.ref b]) ++ List.replicate (4 - (lg_sl ([.ref b])).length) Slot.unset).toArray = ls at hl ⊢
  have hR : xRel G s.heap.size (xf0 xs) L ρ (xσ0 xs L) s.heap := ⟨fun id h => absurd h xlow_new, fun i j h => absurd h xlow_new, fun id h => absurd h xlow_new, fun id k q h => absurd h xlow_new, ⟨Nat.le_refl _, Nat.le_of_ble_eq_true rfl, Nat.le_refl _, Nat.le_of_ble_eq_true rfl, Nat.le_refl _, Nat.le_of_ble_eq_true rfl⟩, ⟨rfl, rfl, rfl, rfl⟩, Nat.le_of_ble_eq_true (by rw [show (xσ0 xs L).2.2.1.length = 204 from List.length_replicate]; rfl), fun id h => absurd h xlow_new⟩
  have k := x_ex (Qf := lw_Z below #[Value.ref b] s) (l := l) (e := e) (below := below) (σ0 := xσ0 xs L) hctx ok_303.1 ok_303.2.1 (x_met l G s.heap.size (xf0 xs) L adV (fun c hc => xm_ok hc) 40) (Q := fun r τ => r = some (.int 1)) (rt := 2) ?_ (law_pure xs L hL) ρ s.heap [] 0 0 ls hR va_S.rf (by decide) (by decide) rfl (lv_has_sub hl ?_) ?_ (fun u hu => by cases hu) ⟨fun id hid => ⟨hid, rfl⟩, fun z hz => rfl⟩
  · exact k
  · intro ρ' τ H locs cells slots pc mls hR' hS' hc' hs' hE'
    refine ⟨fun x hQ hrt hd => ?_, fun x hQ => (by simp at hQ), fun x hQ => (by simp at hQ), fun hQ => (by simp at hQ)⟩
    cases hQ
    refine va_forget (fun q hq => hS'.2.2 q hq) ?_
    refine W.widen (k := 600000) (n := 7302249) hc' hs' ?_
    exact lw_ret hx hb hr hlocks hd
  · intro q hq
    obtain ⟨j, w⟩ := q
    obtain ⟨u, h1, h2, h3⟩ := (xasc_mem _ _ _ _).mp hq
    match j, h2 with
    | 0, h2 => cases h2; rw [h3]; show (0, Value.ref (ρ 0)) ∈ [(0, Value.ref b)]; rw [r0]; exact List.mem_cons_self
    | 1, h2 => cases h2
    | 2, h2 => cases h2
    | 3, h2 => cases h2
    | n + 4, h2 => cases h2
  · intro j u hj
    match j, hj with
    | 0, h2 => cases h2; rfl
    | 1, h2 => cases h2
    | 2, h2 => cases h2
    | 3, h2 => cases h2
    | n + 4, h2 => cases h2
