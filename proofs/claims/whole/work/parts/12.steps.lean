theorem xjmp_eq {pc : Nat} {o : Int} (h : xjok pc o = true) : (pc : Int) + o = ((xjmp pc o : Nat) : Int) := by
  have h0 : 0 ≤ Int.ofNat pc + o := of_decide_eq_true h
  exact (Int.toNat_of_nonneg h0).symm
theorem xstrs_lt : ∀ q ∈ xstrs, q.2.2.2 < 9 := by decide +kernel
theorem xalive_low {G : xG} {base : Nat} {f : Nat → Nat → Int32} {N : Nat} {ρ : Nat → Nat} {σ : xH} {H : Heap} (hR : xRel G base f N ρ σ H) {z : Nat} (hz : z < 9) : xalive σ.2.2.2.1 z = true := by
  have h9 := hR.2.2.2.2.1.1
  unfold xalive
  rw [Bool.or_eq_true, Bool.or_eq_true]
  exact Or.inl (Or.inl (Nat.ble_eq_true_of_le (show z + 1 ≤ _ by omega)))
theorem xlow0 {σ : xH} (h9 : 9 ≤ σ.2.2.2.1.1) {z : Nat} (hz : z < 9) : xalive σ.2.2.2.1 z = true := by
  unfold xalive
  rw [Bool.or_eq_true, Bool.or_eq_true]
  exact Or.inl (Or.inl (Nat.ble_eq_true_of_le (show z + 1 ≤ _ by omega)))
theorem x_lcmp (x y : Int64) : (if x < y then (-1 : Int32) else if x = y then 0 else 1) = lg_cmp x y := by
  unfold lg_cmp
  by_cases h1 : x < y
  · have h2 : ¬ x > y := fun h => Int64.lt_irrefl (Int64.lt_trans h1 h)
    have h3 : ¬ x = y := fun h => Int64.lt_irrefl (h ▸ h1 : y < y)
    rw [if_pos h1, if_neg h2, if_neg h3]
  · by_cases h3 : x = y
    · have h2 : ¬ x > y := fun h => by rw [h3] at h; exact Int64.lt_irrefl h
      rw [if_neg h1, if_pos h3, if_neg h2, if_pos h3]
    · have h2 : x > y := Int64.lt_of_le_of_ne (Int64.not_lt.mp h1) (fun h => h3 h.symm)
      rw [if_neg h1, if_neg h3, if_pos h2]
theorem x_ofInt {x : Int32} {a : Int} (h1 : -1000 ≤ a) (h2 : a ≤ 1000) : x = Int32.ofInt a ↔ x.toInt = a := by
  have e : (Int32.ofInt a).toInt = a := Int32.toInt_ofInt_of_le (by omega) (by omega)
  constructor
  · rintro rfl; exact e
  · intro h; exact Int32.toInt_inj.mp (by rw [h, e])
theorem xsw_spec {x : Int32} {pc : Nat} {dv : Int} {K : Nat → Prop} : ∀ (os : List Int) (lo : Int), -1000 ≤ lo → lo + os.length ≤ 1001 → xsw x pc dv lo K os →
    ((x.toInt < lo ∨ lo + os.length ≤ x.toInt) → K (xjmp pc dv)) ∧ (∀ k : Nat, k < os.length → x.toInt = lo + k → ∃ o, os[k]? = some o ∧ K (xjmp pc o))
  | [], lo, _, _, h => ⟨fun _ => h, fun k hk => by simp at hk⟩
  | o :: t, lo, h1, h2, h => by
    rw [xsw] at h
    rw [List.length_cons] at h2 ⊢
    by_cases e : x = Int32.ofInt lo
    · rw [if_pos e] at h
      have e' := (x_ofInt h1 (by omega)).mp e
      refine ⟨fun q => by omega, fun k hk hq => ?_⟩
      have : k = 0 := by omega
      subst this
      exact ⟨o, rfl, h⟩
    · rw [if_neg e] at h
      have e' : ¬ x.toInt = lo := fun q => e ((x_ofInt h1 (by omega)).mpr q)
      obtain ⟨s1, s2⟩ := xsw_spec t (lo + 1) (by omega) (by omega) h
      refine ⟨fun q => s1 (by omega), fun k hk hq => ?_⟩
      cases k with
      | zero => exact absurd (by omega) e'
      | succ k =>
        obtain ⟨o', ho, hK⟩ := s2 k (by omega) (by omega)
        exact ⟨o', ho, hK⟩
theorem xsl_spec {x : Int32} {pc : Nat} {dv : Int} {K : Nat → Prop} : ∀ (ps : List (Int × Int)), (ps.all fun q => decide (-1000 ≤ q.1) && decide (q.1 ≤ 1000)) = true → xsl x pc dv K ps →
    K (xjmp pc (Op.lookupswitch.offset ps dv x.toInt)) ∧ (Op.lookupswitch.offset ps dv x.toInt = dv ∨ ∃ q ∈ ps, Op.lookupswitch.offset ps dv x.toInt = q.2)
  | [], _, h => ⟨h, Or.inl rfl⟩
  | (a, o) :: t, hb, h => by
    rw [List.all_cons, Bool.and_eq_true, Bool.and_eq_true, decide_eq_true_eq, decide_eq_true_eq] at hb
    rw [xsl] at h
    rw [Op.lookupswitch.offset_cons]
    by_cases e : x = Int32.ofInt a
    · have e' := (x_ofInt hb.1.1 hb.1.2).mp e
      rw [if_pos e] at h
      rw [if_pos e'.symm]
      exact ⟨h, Or.inr ⟨(a, o), List.mem_cons_self, rfl⟩⟩
    · have e' : ¬ a = x.toInt := fun q => e ((x_ofInt hb.1.1 hb.1.2).mpr q.symm)
      rw [if_neg e] at h
      rw [if_neg e']
      obtain ⟨h1, h2⟩ := xsl_spec t hb.2 h
      refine ⟨h1, ?_⟩
      rcases h2 with h2 | ⟨q, hq, h2⟩
      · exact Or.inl h2
      · exact Or.inr ⟨q, List.mem_cons_of_mem _ hq, h2⟩
theorem x_ldcwS {p : Program} {l : Launch} {e : Env} {R : Room} {s : State} {m : MethodId} {args : Array Value} {below : List Frame} {meth : Method} {c : Code} {H : Heap} {locs : List Loc} {cells slots : Nat} {Q : State → Prop} {cc : ByteArray} {pc : Nat} {ls : Array Slot} {rest : List Value} (hexec : p.tables.exec = Jvm.exec) (hb : c.code = cc) {own tx : String} {index q : Nat} (hown : s.vm.findClass own = some m.cls) (hZ : vk_R own index tx q s) (hdg : decode cc pc = .ok (.ldc_w index, 3))
    (k : W p l e R s m args below meth c H locs cells slots Q (F0 m (pc + 3) ls (.ref q :: rest))) : W p l e R s m args below meth c H locs cells slots Q (F0 m pc ls rest) := by
  intro T hT X
  obtain ⟨t, a1, b1⟩ := k T hT X
  refine ⟨t, ?_, b1⟩
  obtain ⟨k, cf, i, a', hk, hcf, hcp, -, hr, hev'⟩ := Cond.stringRef_spec hown hZ.1
  cases hZ.2.symm.trans hev'
  obtain ⟨k', hk', he⟩ := X.warmed.alike.2.2 _ _ hk
  have hr' : k'.resolved[index]? = some (some (.string q)) := by
    rcases X.warmed.entry hk hk' index with h | ⟨h, -⟩
    · rw [h]; exact hr
    · rw [hr] at h; cases h
  subst hb
  jvm_step X.here [hexec, hdg, ldc_w.wp_string (e := e) (s := T) (f := F0 m pc ls rest) X.here.top hk' (by rw [he]; exact hcf) hcp hr']
  exact a1
theorem xext_low {G : xG} {base : Nat} {f : Nat → Nat → Int32} {N : Nat} {ρ0 ρ : Nat → Nat} {σ0 σ : xH} {H : Heap} (hE : xext ρ0 σ0 ρ σ) (hR : xRel G base f N ρ σ H) {z : Nat} (hz : z < 9) : ρ z = ρ0 z := hE.2 z hz
theorem xs_stk {p : Program} {l : Launch} {e : Env} {R : Room} {s : State} {m : MethodId} {args : Array Value} {below : List Frame} {meth : Method} {c : Code} {Qf : State → Prop} {G : xG} {base : Nat} {f : Nat → Nat → Int32} {N : Nat} {ρ0 : Nat → Nat} {σ0 : xH} {nL mc ms pc pc' : Nat} {ls : List (Option Value)} {st st' : List Value} {σ : xH} {b : Nat × Nat}
    (h : (xKM p l e R s m args below meth c Qf G base f N ρ0 σ0 nL mc ms) pc' ls st' σ b) (ok : (∀ u ∈ st, xok σ u) → ∀ u ∈ st', xok σ u)
    (row : ∀ (ρ : Nat → Nat) (H : Heap) (locs : List Loc) (cells slots : Nat) (mls : Array Slot), xRel G base f N ρ σ H → va_S (xA base) s.heap H locs → lv_has mls nL (xasc ρ 0 ls) → (∀ j u, xget ls j = some u → xok σ u) → (∀ u ∈ st, xok σ u) → xext ρ0 σ0 ρ σ → cells + b.1 ≤ mc → slots + b.2 ≤ ms →
      W p l e R s m args below meth c H locs cells slots Qf (F0 m pc' mls (st'.map (xemb ρ))) → W p l e R s m args below meth c H locs cells slots Qf (F0 m pc mls (st.map (xemb ρ)))) : (xKM p l e R s m args below meth c Qf G base f N ρ0 σ0 nL mc ms) pc ls st σ b := by
  intro ρ H locs cells slots mls hR hS hc hs hn hl hlo hst hE
  exact row ρ H locs cells slots mls hR hS hl hlo hst hE hc hs (h ρ H locs cells slots mls hR hS hc hs hn hl hlo (ok hst) hE)

set_option maxHeartbeats 4000000 in
theorem xs_iconst {p : Program} {l : Launch} {e : Env} {R : Room} {s : State} {m : MethodId} {args : Array Value} {below : List Frame} {meth : Method} {c : Code} {Qf : State → Prop} {G : xG} {base : Nat} {f : Nat → Nat → Int32} {N : Nat} {ρ0 : Nat → Nat} {σ0 : xH} {adV : Nat → Nat} {cc : ByteArray} {own : String} {ini : Bool} {nL mc ms d : Nat} {Ts : List Cond} (X : xCtx p R s m args meth c G base f N ρ0 adV cc own ini nL mc ms d Ts) {T : List (List (Option xE))} {rt : Nat} {C : xC} {Q : xQ} (hT : xallT (xwP own ini) T) (hD : xdecT cc 0 T = true) {pc : Nat} {ls : List (Option Value)} {st : List Value} {σ : xH} {b : Nat × Nat} {i : Int} {len : Nat} {v : Int32} {ax : List Nat} (hf : xfetch T pc = some (.iconst i, len, v, ax)) (h : xstp T rt C Q (xKM p l e R s m args below meth c Qf G base f N ρ0 σ0 nL mc ms) pc ls st σ b) : (xKM p l e R s m args below meth c Qf G base f N ρ0 σ0 nL mc ms) pc ls st σ b := by
  obtain ⟨hx, hb, hml, hown, hts, hW, hO, hcs, hfr, hin⟩ := X
  obtain ⟨hd, hwb, hj⟩ := xdecT_at hD hf
  have hw := xallT_at hT hf
  unfold xstp at h
  rw [hf] at h
  dsimp only at h hd
  simp only [xwB, Bool.and_eq_true, decide_eq_true_eq] at hwb
  obtain ⟨h1, h2⟩ := hwb
  cases Nat.eq_of_beq_eq_true h1
  exact xs_stk h (fun q => xok_c trivial q) (fun ρ H locs cells slots mls hR hS hl hlo hst hE hcc hss k => lv_iconst hx hb hd h2 k)

set_option maxHeartbeats 4000000 in
theorem xs_bipush {p : Program} {l : Launch} {e : Env} {R : Room} {s : State} {m : MethodId} {args : Array Value} {below : List Frame} {meth : Method} {c : Code} {Qf : State → Prop} {G : xG} {base : Nat} {f : Nat → Nat → Int32} {N : Nat} {ρ0 : Nat → Nat} {σ0 : xH} {adV : Nat → Nat} {cc : ByteArray} {own : String} {ini : Bool} {nL mc ms d : Nat} {Ts : List Cond} (X : xCtx p R s m args meth c G base f N ρ0 adV cc own ini nL mc ms d Ts) {T : List (List (Option xE))} {rt : Nat} {C : xC} {Q : xQ} (hT : xallT (xwP own ini) T) (hD : xdecT cc 0 T = true) {pc : Nat} {ls : List (Option Value)} {st : List Value} {σ : xH} {b : Nat × Nat} {i : Int} {len : Nat} {v : Int32} {ax : List Nat} (hf : xfetch T pc = some (.bipush i, len, v, ax)) (h : xstp T rt C Q (xKM p l e R s m args below meth c Qf G base f N ρ0 σ0 nL mc ms) pc ls st σ b) : (xKM p l e R s m args below meth c Qf G base f N ρ0 σ0 nL mc ms) pc ls st σ b := by
  obtain ⟨hx, hb, hml, hown, hts, hW, hO, hcs, hfr, hin⟩ := X
  obtain ⟨hd, hwb, hj⟩ := xdecT_at hD hf
  have hw := xallT_at hT hf
  unfold xstp at h
  rw [hf] at h
  dsimp only at h hd
  simp only [xwB, Bool.and_eq_true, decide_eq_true_eq] at hwb
  obtain ⟨h1, h2⟩ := hwb
  cases Nat.eq_of_beq_eq_true h1
  exact xs_stk h (fun q => xok_c trivial q) (fun ρ H locs cells slots mls hR hS hl hlo hst hE hcc hss k => lv_bipush hx hb hd h2 k)

set_option maxHeartbeats 4000000 in
theorem xs_sipush {p : Program} {l : Launch} {e : Env} {R : Room} {s : State} {m : MethodId} {args : Array Value} {below : List Frame} {meth : Method} {c : Code} {Qf : State → Prop} {G : xG} {base : Nat} {f : Nat → Nat → Int32} {N : Nat} {ρ0 : Nat → Nat} {σ0 : xH} {adV : Nat → Nat} {cc : ByteArray} {own : String} {ini : Bool} {nL mc ms d : Nat} {Ts : List Cond} (X : xCtx p R s m args meth c G base f N ρ0 adV cc own ini nL mc ms d Ts) {T : List (List (Option xE))} {rt : Nat} {C : xC} {Q : xQ} (hT : xallT (xwP own ini) T) (hD : xdecT cc 0 T = true) {pc : Nat} {ls : List (Option Value)} {st : List Value} {σ : xH} {b : Nat × Nat} {i : Int} {len : Nat} {v : Int32} {ax : List Nat} (hf : xfetch T pc = some (.sipush i, len, v, ax)) (h : xstp T rt C Q (xKM p l e R s m args below meth c Qf G base f N ρ0 σ0 nL mc ms) pc ls st σ b) : (xKM p l e R s m args below meth c Qf G base f N ρ0 σ0 nL mc ms) pc ls st σ b := by
  obtain ⟨hx, hb, hml, hown, hts, hW, hO, hcs, hfr, hin⟩ := X
  obtain ⟨hd, hwb, hj⟩ := xdecT_at hD hf
  have hw := xallT_at hT hf
  unfold xstp at h
  rw [hf] at h
  dsimp only at h hd
  simp only [xwB, Bool.and_eq_true, decide_eq_true_eq] at hwb
  obtain ⟨h1, h2⟩ := hwb
  cases Nat.eq_of_beq_eq_true h1
  exact xs_stk h (fun q => xok_c trivial q) (fun ρ H locs cells slots mls hR hS hl hlo hst hE hcc hss k => lv_sipush hx hb hd h2 k)

set_option maxHeartbeats 4000000 in
theorem xs_lconst {p : Program} {l : Launch} {e : Env} {R : Room} {s : State} {m : MethodId} {args : Array Value} {below : List Frame} {meth : Method} {c : Code} {Qf : State → Prop} {G : xG} {base : Nat} {f : Nat → Nat → Int32} {N : Nat} {ρ0 : Nat → Nat} {σ0 : xH} {adV : Nat → Nat} {cc : ByteArray} {own : String} {ini : Bool} {nL mc ms d : Nat} {Ts : List Cond} (X : xCtx p R s m args meth c G base f N ρ0 adV cc own ini nL mc ms d Ts) {T : List (List (Option xE))} {rt : Nat} {C : xC} {Q : xQ} (hT : xallT (xwP own ini) T) (hD : xdecT cc 0 T = true) {pc : Nat} {ls : List (Option Value)} {st : List Value} {σ : xH} {b : Nat × Nat} {i : Fin 2} {len : Nat} {v : Int32} {ax : List Nat} (hf : xfetch T pc = some (.lconst i, len, v, ax)) (h : xstp T rt C Q (xKM p l e R s m args below meth c Qf G base f N ρ0 σ0 nL mc ms) pc ls st σ b) : (xKM p l e R s m args below meth c Qf G base f N ρ0 σ0 nL mc ms) pc ls st σ b := by
  obtain ⟨hx, hb, hml, hown, hts, hW, hO, hcs, hfr, hin⟩ := X
  obtain ⟨hd, hwb, hj⟩ := xdecT_at hD hf
  have hw := xallT_at hT hf
  unfold xstp at h
  rw [hf] at h
  dsimp only at h hd
  split at h
  · rename_i a
    simp only [xwB, Bool.and_eq_true, decide_eq_true_eq] at hwb
    obtain ⟨h1, h2⟩ := hwb
    cases Nat.eq_of_beq_eq_true h1
    exact xs_stk h (fun q => xok_c trivial q) (fun ρ H locs cells slots mls hR hS hl hlo hst hE hcc hss k => lv_lconst hx hb hd h2 k)
  · exact h.elim

set_option maxHeartbeats 4000000 in
theorem xs_ldc2 {p : Program} {l : Launch} {e : Env} {R : Room} {s : State} {m : MethodId} {args : Array Value} {below : List Frame} {meth : Method} {c : Code} {Qf : State → Prop} {G : xG} {base : Nat} {f : Nat → Nat → Int32} {N : Nat} {ρ0 : Nat → Nat} {σ0 : xH} {adV : Nat → Nat} {cc : ByteArray} {own : String} {ini : Bool} {nL mc ms d : Nat} {Ts : List Cond} (X : xCtx p R s m args meth c G base f N ρ0 adV cc own ini nL mc ms d Ts) {T : List (List (Option xE))} {rt : Nat} {C : xC} {Q : xQ} (hT : xallT (xwP own ini) T) (hD : xdecT cc 0 T = true) {pc : Nat} {ls : List (Option Value)} {st : List Value} {σ : xH} {b : Nat × Nat} {i : Nat} {len : Nat} {v : Int32} {ax : List Nat} (hf : xfetch T pc = some (.ldc2_w i, len, v, ax)) (h : xstp T rt C Q (xKM p l e R s m args below meth c Qf G base f N ρ0 σ0 nL mc ms) pc ls st σ b) : (xKM p l e R s m args below meth c Qf G base f N ρ0 σ0 nL mc ms) pc ls st σ b := by
  obtain ⟨hx, hb, hml, hown, hts, hW, hO, hcs, hfr, hin⟩ := X
  obtain ⟨hd, hwb, hj⟩ := xdecT_at hD hf
  have hw := xallT_at hT hf
  unfold xstp at h
  rw [hf] at h
  dsimp only at h hd
  have h1 : len = 3 := Nat.eq_of_beq_eq_true hwb
  subst h1
  split at h
  · exact xs_stk h (fun q => xok_c trivial q) (fun ρ H locs cells slots mls hR hS hl hlo hst hE hcc hss k => lv_ldc2 hx hb hown (hts _ (hW _ hw)) hd k)
  · exact h.elim

set_option maxHeartbeats 4000000 in
theorem xs_ldc {p : Program} {l : Launch} {e : Env} {R : Room} {s : State} {m : MethodId} {args : Array Value} {below : List Frame} {meth : Method} {c : Code} {Qf : State → Prop} {G : xG} {base : Nat} {f : Nat → Nat → Int32} {N : Nat} {ρ0 : Nat → Nat} {σ0 : xH} {adV : Nat → Nat} {cc : ByteArray} {own : String} {ini : Bool} {nL mc ms d : Nat} {Ts : List Cond} (X : xCtx p R s m args meth c G base f N ρ0 adV cc own ini nL mc ms d Ts) {T : List (List (Option xE))} {rt : Nat} {C : xC} {Q : xQ} (hT : xallT (xwP own ini) T) (hD : xdecT cc 0 T = true) {pc : Nat} {ls : List (Option Value)} {st : List Value} {σ : xH} {b : Nat × Nat} {i : Nat} {len : Nat} {v : Int32} {ax : List Nat} (hf : xfetch T pc = some (.ldc i, len, v, ax)) (h : xstp T rt C Q (xKM p l e R s m args below meth c Qf G base f N ρ0 σ0 nL mc ms) pc ls st σ b) : (xKM p l e R s m args below meth c Qf G base f N ρ0 σ0 nL mc ms) pc ls st σ b := by
  obtain ⟨hx, hb, hml, hown, hts, hW, hO, hcs, hfr, hin⟩ := X
  obtain ⟨hd, hwb, hj⟩ := xdecT_at hD hf
  have hw := xallT_at hT hf
  unfold xstp at h
  rw [hf] at h
  dsimp only at h hd
  have h1 : len = 2 := Nat.eq_of_beq_eq_true hwb
  subst h1
  split at h
  · exact xs_stk h (fun q => xok_c trivial q) (fun ρ H locs cells slots mls hR hS hl hlo hst hE hcc hss k => lv_ldc hx hb hown (hts _ (hW _ hw)) hd k)
  · rename_i z hne
    have hw2 : ∃ tx, (own, i, tx, z) ∈ xstrs := by
      cases z with
      | zero => exact absurd rfl (hne)
      | succ z => exact hw
    obtain ⟨tx, hx1⟩ := hw2
    have hz : z < 9 := xstrs_lt _ hx1
    have hS9 := hO.2.2.2.2.2.2.2.1 _ hx1
    intro ρ H locs cells slots mls hR hS hc hs hn hl hlo hst hE
    have hal : xalive σ.2.2.2.1 z = true := xalive_low hR hz
    have hz0 : ρ z = ρ0 z := xext_low hE hR hz
    refine va_ldcS hx hb hown (q := ρ z) (by rw [hz0]; exact hS9) hd ?_
    exact h ρ H locs cells slots mls hR hS hc hs hn hl hlo (xok_c hal hst) hE
  · exact h.elim

set_option maxHeartbeats 4000000 in
theorem xs_ldc_w {p : Program} {l : Launch} {e : Env} {R : Room} {s : State} {m : MethodId} {args : Array Value} {below : List Frame} {meth : Method} {c : Code} {Qf : State → Prop} {G : xG} {base : Nat} {f : Nat → Nat → Int32} {N : Nat} {ρ0 : Nat → Nat} {σ0 : xH} {adV : Nat → Nat} {cc : ByteArray} {own : String} {ini : Bool} {nL mc ms d : Nat} {Ts : List Cond} (X : xCtx p R s m args meth c G base f N ρ0 adV cc own ini nL mc ms d Ts) {T : List (List (Option xE))} {rt : Nat} {C : xC} {Q : xQ} (hT : xallT (xwP own ini) T) (hD : xdecT cc 0 T = true) {pc : Nat} {ls : List (Option Value)} {st : List Value} {σ : xH} {b : Nat × Nat} {i : Nat} {len : Nat} {v : Int32} {ax : List Nat} (hf : xfetch T pc = some (.ldc_w i, len, v, ax)) (h : xstp T rt C Q (xKM p l e R s m args below meth c Qf G base f N ρ0 σ0 nL mc ms) pc ls st σ b) : (xKM p l e R s m args below meth c Qf G base f N ρ0 σ0 nL mc ms) pc ls st σ b := by
  obtain ⟨hx, hb, hml, hown, hts, hW, hO, hcs, hfr, hin⟩ := X
  obtain ⟨hd, hwb, hj⟩ := xdecT_at hD hf
  have hw := xallT_at hT hf
  unfold xstp at h
  rw [hf] at h
  dsimp only at h hd
  have h1 : len = 3 := Nat.eq_of_beq_eq_true hwb
  subst h1
  split at h
  · exact xs_stk h (fun q => xok_c trivial q) (fun ρ H locs cells slots mls hR hS hl hlo hst hE hcc hss k => lv_ldcw hx hb hown (hts _ (hW _ hw)) hd k)
  · rename_i z hne
    have hw2 : ∃ tx, (own, i, tx, z) ∈ xstrs := by
      cases z with
      | zero => exact absurd rfl (hne)
      | succ z => exact hw
    obtain ⟨tx, hx1⟩ := hw2
    have hz : z < 9 := xstrs_lt _ hx1
    have hS9 := hO.2.2.2.2.2.2.2.1 _ hx1
    intro ρ H locs cells slots mls hR hS hc hs hn hl hlo hst hE
    have hal : xalive σ.2.2.2.1 z = true := xalive_low hR hz
    have hz0 : ρ z = ρ0 z := xext_low hE hR hz
    refine x_ldcwS hx hb hown (q := ρ z) (by rw [hz0]; exact hS9) hd ?_
    exact h ρ H locs cells slots mls hR hS hc hs hn hl hlo (xok_c hal hst) hE
  · exact h.elim

set_option maxHeartbeats 4000000 in
theorem xs_iload_n {p : Program} {l : Launch} {e : Env} {R : Room} {s : State} {m : MethodId} {args : Array Value} {below : List Frame} {meth : Method} {c : Code} {Qf : State → Prop} {G : xG} {base : Nat} {f : Nat → Nat → Int32} {N : Nat} {ρ0 : Nat → Nat} {σ0 : xH} {adV : Nat → Nat} {cc : ByteArray} {own : String} {ini : Bool} {nL mc ms d : Nat} {Ts : List Cond} (X : xCtx p R s m args meth c G base f N ρ0 adV cc own ini nL mc ms d Ts) {T : List (List (Option xE))} {rt : Nat} {C : xC} {Q : xQ} (hT : xallT (xwP own ini) T) (hD : xdecT cc 0 T = true) {pc : Nat} {ls : List (Option Value)} {st : List Value} {σ : xH} {b : Nat × Nat} {i : Fin 4} {len : Nat} {v : Int32} {ax : List Nat} (hf : xfetch T pc = some (.iload_n i, len, v, ax)) (h : xstp T rt C Q (xKM p l e R s m args below meth c Qf G base f N ρ0 σ0 nL mc ms) pc ls st σ b) : (xKM p l e R s m args below meth c Qf G base f N ρ0 σ0 nL mc ms) pc ls st σ b := by
  obtain ⟨hx, hb, hml, hown, hts, hW, hO, hcs, hfr, hin⟩ := X
  obtain ⟨hd, hwb, hj⟩ := xdecT_at hD hf
  have hw := xallT_at hT hf
  unfold xstp at h
  rw [hf] at h
  dsimp only at h hd
  have h1 : len = 1 := Nat.eq_of_beq_eq_true hwb
  subst h1
  split at h
  · rename_i x hg
    exact xs_stk h (fun q => xok_c trivial q) (fun ρ H locs cells slots mls hR hS hl hlo hst hE hcc hss k => lv_iload_n hx hb hd rfl (xloc hl hg) k)
  · exact h.elim

set_option maxHeartbeats 4000000 in
theorem xs_lload_n {p : Program} {l : Launch} {e : Env} {R : Room} {s : State} {m : MethodId} {args : Array Value} {below : List Frame} {meth : Method} {c : Code} {Qf : State → Prop} {G : xG} {base : Nat} {f : Nat → Nat → Int32} {N : Nat} {ρ0 : Nat → Nat} {σ0 : xH} {adV : Nat → Nat} {cc : ByteArray} {own : String} {ini : Bool} {nL mc ms d : Nat} {Ts : List Cond} (X : xCtx p R s m args meth c G base f N ρ0 adV cc own ini nL mc ms d Ts) {T : List (List (Option xE))} {rt : Nat} {C : xC} {Q : xQ} (hT : xallT (xwP own ini) T) (hD : xdecT cc 0 T = true) {pc : Nat} {ls : List (Option Value)} {st : List Value} {σ : xH} {b : Nat × Nat} {i : Fin 4} {len : Nat} {v : Int32} {ax : List Nat} (hf : xfetch T pc = some (.lload_n i, len, v, ax)) (h : xstp T rt C Q (xKM p l e R s m args below meth c Qf G base f N ρ0 σ0 nL mc ms) pc ls st σ b) : (xKM p l e R s m args below meth c Qf G base f N ρ0 σ0 nL mc ms) pc ls st σ b := by
  obtain ⟨hx, hb, hml, hown, hts, hW, hO, hcs, hfr, hin⟩ := X
  obtain ⟨hd, hwb, hj⟩ := xdecT_at hD hf
  have hw := xallT_at hT hf
  unfold xstp at h
  rw [hf] at h
  dsimp only at h hd
  have h1 : len = 1 := Nat.eq_of_beq_eq_true hwb
  subst h1
  split at h
  · rename_i x hg
    exact xs_stk h (fun q => xok_c trivial q) (fun ρ H locs cells slots mls hR hS hl hlo hst hE hcc hss k => lv_lload_n hx hb hd rfl (xloc hl hg) k)
  · exact h.elim

set_option maxHeartbeats 4000000 in
theorem xs_aload_n {p : Program} {l : Launch} {e : Env} {R : Room} {s : State} {m : MethodId} {args : Array Value} {below : List Frame} {meth : Method} {c : Code} {Qf : State → Prop} {G : xG} {base : Nat} {f : Nat → Nat → Int32} {N : Nat} {ρ0 : Nat → Nat} {σ0 : xH} {adV : Nat → Nat} {cc : ByteArray} {own : String} {ini : Bool} {nL mc ms d : Nat} {Ts : List Cond} (X : xCtx p R s m args meth c G base f N ρ0 adV cc own ini nL mc ms d Ts) {T : List (List (Option xE))} {rt : Nat} {C : xC} {Q : xQ} (hT : xallT (xwP own ini) T) (hD : xdecT cc 0 T = true) {pc : Nat} {ls : List (Option Value)} {st : List Value} {σ : xH} {b : Nat × Nat} {i : Fin 4} {len : Nat} {v : Int32} {ax : List Nat} (hf : xfetch T pc = some (.aload_n i, len, v, ax)) (h : xstp T rt C Q (xKM p l e R s m args below meth c Qf G base f N ρ0 σ0 nL mc ms) pc ls st σ b) : (xKM p l e R s m args below meth c Qf G base f N ρ0 σ0 nL mc ms) pc ls st σ b := by
  obtain ⟨hx, hb, hml, hown, hts, hW, hO, hcs, hfr, hin⟩ := X
  obtain ⟨hd, hwb, hj⟩ := xdecT_at hD hf
  have hw := xallT_at hT hf
  unfold xstp at h
  rw [hf] at h
  dsimp only at h hd
  have h1 : len = 1 := Nat.eq_of_beq_eq_true hwb
  subst h1
  split at h
  · rename_i x hg
    intro ρ H locs cells slots mls hR hS hc hs hn hl hlo hst hE
    have k := h ρ H locs cells slots mls hR hS hc hs hn hl hlo (xok_c (hlo _ _ hg) hst) hE
    exact lv_aload_n hx hb hd rfl (xloc hl hg) k
  · exact h.elim

set_option maxHeartbeats 4000000 in
theorem xs_iload {p : Program} {l : Launch} {e : Env} {R : Room} {s : State} {m : MethodId} {args : Array Value} {below : List Frame} {meth : Method} {c : Code} {Qf : State → Prop} {G : xG} {base : Nat} {f : Nat → Nat → Int32} {N : Nat} {ρ0 : Nat → Nat} {σ0 : xH} {adV : Nat → Nat} {cc : ByteArray} {own : String} {ini : Bool} {nL mc ms d : Nat} {Ts : List Cond} (X : xCtx p R s m args meth c G base f N ρ0 adV cc own ini nL mc ms d Ts) {T : List (List (Option xE))} {rt : Nat} {C : xC} {Q : xQ} (hT : xallT (xwP own ini) T) (hD : xdecT cc 0 T = true) {pc : Nat} {ls : List (Option Value)} {st : List Value} {σ : xH} {b : Nat × Nat} {i : Nat} {len : Nat} {v : Int32} {ax : List Nat} (hf : xfetch T pc = some (.iload i, len, v, ax)) (h : xstp T rt C Q (xKM p l e R s m args below meth c Qf G base f N ρ0 σ0 nL mc ms) pc ls st σ b) : (xKM p l e R s m args below meth c Qf G base f N ρ0 σ0 nL mc ms) pc ls st σ b := by
  obtain ⟨hx, hb, hml, hown, hts, hW, hO, hcs, hfr, hin⟩ := X
  obtain ⟨hd, hwb, hj⟩ := xdecT_at hD hf
  have hw := xallT_at hT hf
  unfold xstp at h
  rw [hf] at h
  dsimp only at h hd
  have h1 : len = 2 := Nat.eq_of_beq_eq_true hwb
  subst h1
  split at h
  · rename_i x hg
    exact xs_stk h (fun q => xok_c trivial q) (fun ρ H locs cells slots mls hR hS hl hlo hst hE hcc hss k => lv_iload hx hb hd (xloc hl hg) k)
  · exact h.elim

set_option maxHeartbeats 4000000 in
theorem xs_lload {p : Program} {l : Launch} {e : Env} {R : Room} {s : State} {m : MethodId} {args : Array Value} {below : List Frame} {meth : Method} {c : Code} {Qf : State → Prop} {G : xG} {base : Nat} {f : Nat → Nat → Int32} {N : Nat} {ρ0 : Nat → Nat} {σ0 : xH} {adV : Nat → Nat} {cc : ByteArray} {own : String} {ini : Bool} {nL mc ms d : Nat} {Ts : List Cond} (X : xCtx p R s m args meth c G base f N ρ0 adV cc own ini nL mc ms d Ts) {T : List (List (Option xE))} {rt : Nat} {C : xC} {Q : xQ} (hT : xallT (xwP own ini) T) (hD : xdecT cc 0 T = true) {pc : Nat} {ls : List (Option Value)} {st : List Value} {σ : xH} {b : Nat × Nat} {i : Nat} {len : Nat} {v : Int32} {ax : List Nat} (hf : xfetch T pc = some (.lload i, len, v, ax)) (h : xstp T rt C Q (xKM p l e R s m args below meth c Qf G base f N ρ0 σ0 nL mc ms) pc ls st σ b) : (xKM p l e R s m args below meth c Qf G base f N ρ0 σ0 nL mc ms) pc ls st σ b := by
  obtain ⟨hx, hb, hml, hown, hts, hW, hO, hcs, hfr, hin⟩ := X
  obtain ⟨hd, hwb, hj⟩ := xdecT_at hD hf
  have hw := xallT_at hT hf
  unfold xstp at h
  rw [hf] at h
  dsimp only at h hd
  have h1 : len = 2 := Nat.eq_of_beq_eq_true hwb
  subst h1
  split at h
  · rename_i x hg
    exact xs_stk h (fun q => xok_c trivial q) (fun ρ H locs cells slots mls hR hS hl hlo hst hE hcc hss k => lv_lload hx hb hd (xloc hl hg) k)
  · exact h.elim

set_option maxHeartbeats 4000000 in
theorem xs_aload {p : Program} {l : Launch} {e : Env} {R : Room} {s : State} {m : MethodId} {args : Array Value} {below : List Frame} {meth : Method} {c : Code} {Qf : State → Prop} {G : xG} {base : Nat} {f : Nat → Nat → Int32} {N : Nat} {ρ0 : Nat → Nat} {σ0 : xH} {adV : Nat → Nat} {cc : ByteArray} {own : String} {ini : Bool} {nL mc ms d : Nat} {Ts : List Cond} (X : xCtx p R s m args meth c G base f N ρ0 adV cc own ini nL mc ms d Ts) {T : List (List (Option xE))} {rt : Nat} {C : xC} {Q : xQ} (hT : xallT (xwP own ini) T) (hD : xdecT cc 0 T = true) {pc : Nat} {ls : List (Option Value)} {st : List Value} {σ : xH} {b : Nat × Nat} {i : Nat} {len : Nat} {v : Int32} {ax : List Nat} (hf : xfetch T pc = some (.aload i, len, v, ax)) (h : xstp T rt C Q (xKM p l e R s m args below meth c Qf G base f N ρ0 σ0 nL mc ms) pc ls st σ b) : (xKM p l e R s m args below meth c Qf G base f N ρ0 σ0 nL mc ms) pc ls st σ b := by
  obtain ⟨hx, hb, hml, hown, hts, hW, hO, hcs, hfr, hin⟩ := X
  obtain ⟨hd, hwb, hj⟩ := xdecT_at hD hf
  have hw := xallT_at hT hf
  unfold xstp at h
  rw [hf] at h
  dsimp only at h hd
  have h1 : len = 2 := Nat.eq_of_beq_eq_true hwb
  subst h1
  split at h
  · rename_i x hg
    intro ρ H locs cells slots mls hR hS hc hs hn hl hlo hst hE
    have k := h ρ H locs cells slots mls hR hS hc hs hn hl hlo (xok_c (hlo _ _ hg) hst) hE
    exact lv_aload hx hb hd (xloc hl hg) k
  · exact h.elim

set_option maxHeartbeats 4000000 in
theorem xs_istore_n {p : Program} {l : Launch} {e : Env} {R : Room} {s : State} {m : MethodId} {args : Array Value} {below : List Frame} {meth : Method} {c : Code} {Qf : State → Prop} {G : xG} {base : Nat} {f : Nat → Nat → Int32} {N : Nat} {ρ0 : Nat → Nat} {σ0 : xH} {adV : Nat → Nat} {cc : ByteArray} {own : String} {ini : Bool} {nL mc ms d : Nat} {Ts : List Cond} (X : xCtx p R s m args meth c G base f N ρ0 adV cc own ini nL mc ms d Ts) {T : List (List (Option xE))} {rt : Nat} {C : xC} {Q : xQ} (hT : xallT (xwP own ini) T) (hD : xdecT cc 0 T = true) {pc : Nat} {ls : List (Option Value)} {st : List Value} {σ : xH} {b : Nat × Nat} {i : Fin 4} {len : Nat} {v : Int32} {ax : List Nat} (hf : xfetch T pc = some (.istore_n i, len, v, ax)) (h : xstp T rt C Q (xKM p l e R s m args below meth c Qf G base f N ρ0 σ0 nL mc ms) pc ls st σ b) : (xKM p l e R s m args below meth c Qf G base f N ρ0 σ0 nL mc ms) pc ls st σ b := by
  obtain ⟨hx, hb, hml, hown, hts, hW, hO, hcs, hfr, hin⟩ := X
  obtain ⟨hd, hwb, hj⟩ := xdecT_at hD hf
  have hw := xallT_at hT hf
  unfold xstp at h
  rw [hf] at h
  dsimp only at h hd
  have h1 : len = 1 := Nat.eq_of_beq_eq_true hwb
  subst h1
  split at h
  · rename_i x r
    cases hk : Nat.blt i.val ls.length with
    | false => rw [hk] at h; exact h.elim
    | true =>
      rw [hk] at h
      have hk' : i.val < ls.length := Nat.le_of_ble_eq_true hk
      intro ρ H locs cells slots mls hR hS hc hs hn hl hlo hst hE
      refine lv_istore_n hx hb hd rfl hl (by rw [← hn]; exact hk') rfl (fun mls' hl' => ?_)
      exact h ρ H locs cells slots mls' hR hS hc hs (by rw [xst1_len]; exact hn) (lv_has_sub hl' (xasc_st1 hk' hlo)) (xok_st1 hk' (hst _ List.mem_cons_self) hlo) (xok_t hst) hE
  · exact h.elim

set_option maxHeartbeats 4000000 in
theorem xs_istore {p : Program} {l : Launch} {e : Env} {R : Room} {s : State} {m : MethodId} {args : Array Value} {below : List Frame} {meth : Method} {c : Code} {Qf : State → Prop} {G : xG} {base : Nat} {f : Nat → Nat → Int32} {N : Nat} {ρ0 : Nat → Nat} {σ0 : xH} {adV : Nat → Nat} {cc : ByteArray} {own : String} {ini : Bool} {nL mc ms d : Nat} {Ts : List Cond} (X : xCtx p R s m args meth c G base f N ρ0 adV cc own ini nL mc ms d Ts) {T : List (List (Option xE))} {rt : Nat} {C : xC} {Q : xQ} (hT : xallT (xwP own ini) T) (hD : xdecT cc 0 T = true) {pc : Nat} {ls : List (Option Value)} {st : List Value} {σ : xH} {b : Nat × Nat} {i : Nat} {len : Nat} {v : Int32} {ax : List Nat} (hf : xfetch T pc = some (.istore i, len, v, ax)) (h : xstp T rt C Q (xKM p l e R s m args below meth c Qf G base f N ρ0 σ0 nL mc ms) pc ls st σ b) : (xKM p l e R s m args below meth c Qf G base f N ρ0 σ0 nL mc ms) pc ls st σ b := by
  obtain ⟨hx, hb, hml, hown, hts, hW, hO, hcs, hfr, hin⟩ := X
  obtain ⟨hd, hwb, hj⟩ := xdecT_at hD hf
  have hw := xallT_at hT hf
  unfold xstp at h
  rw [hf] at h
  dsimp only at h hd
  have h1 : len = 2 := Nat.eq_of_beq_eq_true hwb
  subst h1
  split at h
  · rename_i x r
    cases hk : Nat.blt i ls.length with
    | false => rw [hk] at h; exact h.elim
    | true =>
      rw [hk] at h
      have hk' : i < ls.length := Nat.le_of_ble_eq_true hk
      intro ρ H locs cells slots mls hR hS hc hs hn hl hlo hst hE
      refine lv_istore hx hb hd hl (by rw [← hn]; exact hk') rfl (fun mls' hl' => ?_)
      exact h ρ H locs cells slots mls' hR hS hc hs (by rw [xst1_len]; exact hn) (lv_has_sub hl' (xasc_st1 hk' hlo)) (xok_st1 hk' (hst _ List.mem_cons_self) hlo) (xok_t hst) hE
  · exact h.elim

set_option maxHeartbeats 4000000 in
theorem xs_astore_n {p : Program} {l : Launch} {e : Env} {R : Room} {s : State} {m : MethodId} {args : Array Value} {below : List Frame} {meth : Method} {c : Code} {Qf : State → Prop} {G : xG} {base : Nat} {f : Nat → Nat → Int32} {N : Nat} {ρ0 : Nat → Nat} {σ0 : xH} {adV : Nat → Nat} {cc : ByteArray} {own : String} {ini : Bool} {nL mc ms d : Nat} {Ts : List Cond} (X : xCtx p R s m args meth c G base f N ρ0 adV cc own ini nL mc ms d Ts) {T : List (List (Option xE))} {rt : Nat} {C : xC} {Q : xQ} (hT : xallT (xwP own ini) T) (hD : xdecT cc 0 T = true) {pc : Nat} {ls : List (Option Value)} {st : List Value} {σ : xH} {b : Nat × Nat} {i : Fin 4} {len : Nat} {v : Int32} {ax : List Nat} (hf : xfetch T pc = some (.astore_n i, len, v, ax)) (h : xstp T rt C Q (xKM p l e R s m args below meth c Qf G base f N ρ0 σ0 nL mc ms) pc ls st σ b) : (xKM p l e R s m args below meth c Qf G base f N ρ0 σ0 nL mc ms) pc ls st σ b := by
  obtain ⟨hx, hb, hml, hown, hts, hW, hO, hcs, hfr, hin⟩ := X
  obtain ⟨hd, hwb, hj⟩ := xdecT_at hD hf
  have hw := xallT_at hT hf
  unfold xstp at h
  rw [hf] at h
  dsimp only at h hd
  have h1 : len = 1 := Nat.eq_of_beq_eq_true hwb
  subst h1
  split at h
  · rename_i x r
    cases hk : Nat.blt i.val ls.length with
    | false => rw [hk] at h; exact h.elim
    | true =>
      rw [hk] at h
      have hk' : i.val < ls.length := Nat.le_of_ble_eq_true hk
      intro ρ H locs cells slots mls hR hS hc hs hn hl hlo hst hE
      refine lv_astore_n hx hb hd rfl hl (by rw [← hn]; exact hk') rfl (fun mls' hl' => ?_)
      exact h ρ H locs cells slots mls' hR hS hc hs (by rw [xst1_len]; exact hn) (lv_has_sub hl' (xasc_st1 hk' hlo)) (xok_st1 hk' (hst _ List.mem_cons_self) hlo) (xok_t hst) hE
  · exact h.elim

set_option maxHeartbeats 4000000 in
theorem xs_lstore {p : Program} {l : Launch} {e : Env} {R : Room} {s : State} {m : MethodId} {args : Array Value} {below : List Frame} {meth : Method} {c : Code} {Qf : State → Prop} {G : xG} {base : Nat} {f : Nat → Nat → Int32} {N : Nat} {ρ0 : Nat → Nat} {σ0 : xH} {adV : Nat → Nat} {cc : ByteArray} {own : String} {ini : Bool} {nL mc ms d : Nat} {Ts : List Cond} (X : xCtx p R s m args meth c G base f N ρ0 adV cc own ini nL mc ms d Ts) {T : List (List (Option xE))} {rt : Nat} {C : xC} {Q : xQ} (hT : xallT (xwP own ini) T) (hD : xdecT cc 0 T = true) {pc : Nat} {ls : List (Option Value)} {st : List Value} {σ : xH} {b : Nat × Nat} {i : Nat} {len : Nat} {v : Int32} {ax : List Nat} (hf : xfetch T pc = some (.lstore i, len, v, ax)) (h : xstp T rt C Q (xKM p l e R s m args below meth c Qf G base f N ρ0 σ0 nL mc ms) pc ls st σ b) : (xKM p l e R s m args below meth c Qf G base f N ρ0 σ0 nL mc ms) pc ls st σ b := by
  obtain ⟨hx, hb, hml, hown, hts, hW, hO, hcs, hfr, hin⟩ := X
  obtain ⟨hd, hwb, hj⟩ := xdecT_at hD hf
  have hw := xallT_at hT hf
  unfold xstp at h
  rw [hf] at h
  dsimp only at h hd
  have h1 : len = 2 := Nat.eq_of_beq_eq_true hwb
  subst h1
  split at h
  · rename_i x r
    cases hk : Nat.blt (i + 1) ls.length with
    | false => rw [hk] at h; exact h.elim
    | true =>
      rw [hk] at h
      have hk' : i + 1 < ls.length := Nat.le_of_ble_eq_true hk
      intro ρ H locs cells slots mls hR hS hc hs hn hl hlo hst hE
      refine lv_lstore hx hb hd hl (by rw [← hn]; exact hk') rfl (fun mls' hl' => ?_)
      exact h ρ H locs cells slots mls' hR hS hc hs (by rw [xst2_len]; exact hn) (lv_has_sub hl' (xasc_st2 hk' hlo)) (xok_st2 hk' trivial hlo) (xok_t hst) hE
  · exact h.elim

set_option maxHeartbeats 4000000 in
theorem xs_iinc {p : Program} {l : Launch} {e : Env} {R : Room} {s : State} {m : MethodId} {args : Array Value} {below : List Frame} {meth : Method} {c : Code} {Qf : State → Prop} {G : xG} {base : Nat} {f : Nat → Nat → Int32} {N : Nat} {ρ0 : Nat → Nat} {σ0 : xH} {adV : Nat → Nat} {cc : ByteArray} {own : String} {ini : Bool} {nL mc ms d : Nat} {Ts : List Cond} (X : xCtx p R s m args meth c G base f N ρ0 adV cc own ini nL mc ms d Ts) {T : List (List (Option xE))} {rt : Nat} {C : xC} {Q : xQ} (hT : xallT (xwP own ini) T) (hD : xdecT cc 0 T = true) {pc : Nat} {ls : List (Option Value)} {st : List Value} {σ : xH} {b : Nat × Nat} {i : Nat} {o : Int} {len : Nat} {v : Int32} {ax : List Nat} (hf : xfetch T pc = some (.iinc i o, len, v, ax)) (h : xstp T rt C Q (xKM p l e R s m args below meth c Qf G base f N ρ0 σ0 nL mc ms) pc ls st σ b) : (xKM p l e R s m args below meth c Qf G base f N ρ0 σ0 nL mc ms) pc ls st σ b := by
  obtain ⟨hx, hb, hml, hown, hts, hW, hO, hcs, hfr, hin⟩ := X
  obtain ⟨hd, hwb, hj⟩ := xdecT_at hD hf
  have hw := xallT_at hT hf
  unfold xstp at h
  rw [hf] at h
  dsimp only at h hd
  simp only [xwB, Bool.and_eq_true, decide_eq_true_eq] at hwb
  obtain ⟨h1, h2⟩ := hwb
  cases Nat.eq_of_beq_eq_true h1
  split at h
  · rename_i x hg
    cases hk : Nat.blt i ls.length with
    | false => rw [hk] at h; exact h.elim
    | true =>
      rw [hk] at h
      have hk' : i < ls.length := Nat.le_of_ble_eq_true hk
      intro ρ H locs cells slots mls hR hS hc hs hn hl hlo hst hE
      have hl0 : lv_has mls nL ((i, .int x) :: xasc ρ 0 ls) := ⟨hl.1, hl.2.1, fun q hq => by
        rcases List.mem_cons.mp hq with rfl | hq
        · exact xloc hl hg
        · exact hl.2.2 q hq⟩
      refine lv_iinc hx hb hd hl0 (k := 0) rfl (v := x + v) (by rw [h2]) (by rw [← hn]; exact hk') rfl (fun mls' hl' => ?_)
      exact h ρ H locs cells slots mls' hR hS hc hs (by rw [xst1_len]; exact hn) (lv_has_sub hl' (fun q hq => by
        rcases List.mem_cons.mp (xasc_st1 hk' hlo q hq) with e | e
        · exact e ▸ List.mem_cons_self
        · refine List.mem_cons_of_mem _ ?_
          rw [List.mem_filter] at e ⊢
          exact ⟨List.mem_cons_of_mem _ e.1, e.2⟩)) (xok_st1 hk' trivial hlo) hst hE
  · exact h.elim

set_option maxHeartbeats 4000000 in
theorem xs_iadd {p : Program} {l : Launch} {e : Env} {R : Room} {s : State} {m : MethodId} {args : Array Value} {below : List Frame} {meth : Method} {c : Code} {Qf : State → Prop} {G : xG} {base : Nat} {f : Nat → Nat → Int32} {N : Nat} {ρ0 : Nat → Nat} {σ0 : xH} {adV : Nat → Nat} {cc : ByteArray} {own : String} {ini : Bool} {nL mc ms d : Nat} {Ts : List Cond} (X : xCtx p R s m args meth c G base f N ρ0 adV cc own ini nL mc ms d Ts) {T : List (List (Option xE))} {rt : Nat} {C : xC} {Q : xQ} (hT : xallT (xwP own ini) T) (hD : xdecT cc 0 T = true) {pc : Nat} {ls : List (Option Value)} {st : List Value} {σ : xH} {b : Nat × Nat}  {len : Nat} {v : Int32} {ax : List Nat} (hf : xfetch T pc = some (.iadd, len, v, ax)) (h : xstp T rt C Q (xKM p l e R s m args below meth c Qf G base f N ρ0 σ0 nL mc ms) pc ls st σ b) : (xKM p l e R s m args below meth c Qf G base f N ρ0 σ0 nL mc ms) pc ls st σ b := by
  obtain ⟨hx, hb, hml, hown, hts, hW, hO, hcs, hfr, hin⟩ := X
  obtain ⟨hd, hwb, hj⟩ := xdecT_at hD hf
  have hw := xallT_at hT hf
  unfold xstp at h
  rw [hf] at h
  dsimp only at h hd
  have h1 : len = 1 := Nat.eq_of_beq_eq_true hwb
  subst h1
  split at h
  · exact xs_stk h (fun q => xok_c trivial (xok_t (xok_t q))) (fun ρ H locs cells slots mls hR hS hl hlo hst hE hcc hss k => lv_iadd hx hb hd k)
  · exact h.elim

set_option maxHeartbeats 4000000 in
theorem xs_isub {p : Program} {l : Launch} {e : Env} {R : Room} {s : State} {m : MethodId} {args : Array Value} {below : List Frame} {meth : Method} {c : Code} {Qf : State → Prop} {G : xG} {base : Nat} {f : Nat → Nat → Int32} {N : Nat} {ρ0 : Nat → Nat} {σ0 : xH} {adV : Nat → Nat} {cc : ByteArray} {own : String} {ini : Bool} {nL mc ms d : Nat} {Ts : List Cond} (X : xCtx p R s m args meth c G base f N ρ0 adV cc own ini nL mc ms d Ts) {T : List (List (Option xE))} {rt : Nat} {C : xC} {Q : xQ} (hT : xallT (xwP own ini) T) (hD : xdecT cc 0 T = true) {pc : Nat} {ls : List (Option Value)} {st : List Value} {σ : xH} {b : Nat × Nat}  {len : Nat} {v : Int32} {ax : List Nat} (hf : xfetch T pc = some (.isub, len, v, ax)) (h : xstp T rt C Q (xKM p l e R s m args below meth c Qf G base f N ρ0 σ0 nL mc ms) pc ls st σ b) : (xKM p l e R s m args below meth c Qf G base f N ρ0 σ0 nL mc ms) pc ls st σ b := by
  obtain ⟨hx, hb, hml, hown, hts, hW, hO, hcs, hfr, hin⟩ := X
  obtain ⟨hd, hwb, hj⟩ := xdecT_at hD hf
  have hw := xallT_at hT hf
  unfold xstp at h
  rw [hf] at h
  dsimp only at h hd
  have h1 : len = 1 := Nat.eq_of_beq_eq_true hwb
  subst h1
  split at h
  · exact xs_stk h (fun q => xok_c trivial (xok_t (xok_t q))) (fun ρ H locs cells slots mls hR hS hl hlo hst hE hcc hss k => lv_isub hx hb hd k)
  · exact h.elim

set_option maxHeartbeats 4000000 in
theorem xs_imul {p : Program} {l : Launch} {e : Env} {R : Room} {s : State} {m : MethodId} {args : Array Value} {below : List Frame} {meth : Method} {c : Code} {Qf : State → Prop} {G : xG} {base : Nat} {f : Nat → Nat → Int32} {N : Nat} {ρ0 : Nat → Nat} {σ0 : xH} {adV : Nat → Nat} {cc : ByteArray} {own : String} {ini : Bool} {nL mc ms d : Nat} {Ts : List Cond} (X : xCtx p R s m args meth c G base f N ρ0 adV cc own ini nL mc ms d Ts) {T : List (List (Option xE))} {rt : Nat} {C : xC} {Q : xQ} (hT : xallT (xwP own ini) T) (hD : xdecT cc 0 T = true) {pc : Nat} {ls : List (Option Value)} {st : List Value} {σ : xH} {b : Nat × Nat}  {len : Nat} {v : Int32} {ax : List Nat} (hf : xfetch T pc = some (.imul, len, v, ax)) (h : xstp T rt C Q (xKM p l e R s m args below meth c Qf G base f N ρ0 σ0 nL mc ms) pc ls st σ b) : (xKM p l e R s m args below meth c Qf G base f N ρ0 σ0 nL mc ms) pc ls st σ b := by
  obtain ⟨hx, hb, hml, hown, hts, hW, hO, hcs, hfr, hin⟩ := X
  obtain ⟨hd, hwb, hj⟩ := xdecT_at hD hf
  have hw := xallT_at hT hf
  unfold xstp at h
  rw [hf] at h
  dsimp only at h hd
  have h1 : len = 1 := Nat.eq_of_beq_eq_true hwb
  subst h1
  split at h
  · exact xs_stk h (fun q => xok_c trivial (xok_t (xok_t q))) (fun ρ H locs cells slots mls hR hS hl hlo hst hE hcc hss k => lv_imul hx hb hd k)
  · exact h.elim

set_option maxHeartbeats 4000000 in
theorem xs_iand {p : Program} {l : Launch} {e : Env} {R : Room} {s : State} {m : MethodId} {args : Array Value} {below : List Frame} {meth : Method} {c : Code} {Qf : State → Prop} {G : xG} {base : Nat} {f : Nat → Nat → Int32} {N : Nat} {ρ0 : Nat → Nat} {σ0 : xH} {adV : Nat → Nat} {cc : ByteArray} {own : String} {ini : Bool} {nL mc ms d : Nat} {Ts : List Cond} (X : xCtx p R s m args meth c G base f N ρ0 adV cc own ini nL mc ms d Ts) {T : List (List (Option xE))} {rt : Nat} {C : xC} {Q : xQ} (hT : xallT (xwP own ini) T) (hD : xdecT cc 0 T = true) {pc : Nat} {ls : List (Option Value)} {st : List Value} {σ : xH} {b : Nat × Nat}  {len : Nat} {v : Int32} {ax : List Nat} (hf : xfetch T pc = some (.iand, len, v, ax)) (h : xstp T rt C Q (xKM p l e R s m args below meth c Qf G base f N ρ0 σ0 nL mc ms) pc ls st σ b) : (xKM p l e R s m args below meth c Qf G base f N ρ0 σ0 nL mc ms) pc ls st σ b := by
  obtain ⟨hx, hb, hml, hown, hts, hW, hO, hcs, hfr, hin⟩ := X
  obtain ⟨hd, hwb, hj⟩ := xdecT_at hD hf
  have hw := xallT_at hT hf
  unfold xstp at h
  rw [hf] at h
  dsimp only at h hd
  have h1 : len = 1 := Nat.eq_of_beq_eq_true hwb
  subst h1
  split at h
  · exact xs_stk h (fun q => xok_c trivial (xok_t (xok_t q))) (fun ρ H locs cells slots mls hR hS hl hlo hst hE hcc hss k => lv_iand hx hb hd k)
  · exact h.elim

set_option maxHeartbeats 4000000 in
theorem xs_ior {p : Program} {l : Launch} {e : Env} {R : Room} {s : State} {m : MethodId} {args : Array Value} {below : List Frame} {meth : Method} {c : Code} {Qf : State → Prop} {G : xG} {base : Nat} {f : Nat → Nat → Int32} {N : Nat} {ρ0 : Nat → Nat} {σ0 : xH} {adV : Nat → Nat} {cc : ByteArray} {own : String} {ini : Bool} {nL mc ms d : Nat} {Ts : List Cond} (X : xCtx p R s m args meth c G base f N ρ0 adV cc own ini nL mc ms d Ts) {T : List (List (Option xE))} {rt : Nat} {C : xC} {Q : xQ} (hT : xallT (xwP own ini) T) (hD : xdecT cc 0 T = true) {pc : Nat} {ls : List (Option Value)} {st : List Value} {σ : xH} {b : Nat × Nat}  {len : Nat} {v : Int32} {ax : List Nat} (hf : xfetch T pc = some (.ior, len, v, ax)) (h : xstp T rt C Q (xKM p l e R s m args below meth c Qf G base f N ρ0 σ0 nL mc ms) pc ls st σ b) : (xKM p l e R s m args below meth c Qf G base f N ρ0 σ0 nL mc ms) pc ls st σ b := by
  obtain ⟨hx, hb, hml, hown, hts, hW, hO, hcs, hfr, hin⟩ := X
  obtain ⟨hd, hwb, hj⟩ := xdecT_at hD hf
  have hw := xallT_at hT hf
  unfold xstp at h
  rw [hf] at h
  dsimp only at h hd
  have h1 : len = 1 := Nat.eq_of_beq_eq_true hwb
  subst h1
  split at h
  · exact xs_stk h (fun q => xok_c trivial (xok_t (xok_t q))) (fun ρ H locs cells slots mls hR hS hl hlo hst hE hcc hss k => lv_ior hx hb hd k)
  · exact h.elim

set_option maxHeartbeats 4000000 in
theorem xs_ishl {p : Program} {l : Launch} {e : Env} {R : Room} {s : State} {m : MethodId} {args : Array Value} {below : List Frame} {meth : Method} {c : Code} {Qf : State → Prop} {G : xG} {base : Nat} {f : Nat → Nat → Int32} {N : Nat} {ρ0 : Nat → Nat} {σ0 : xH} {adV : Nat → Nat} {cc : ByteArray} {own : String} {ini : Bool} {nL mc ms d : Nat} {Ts : List Cond} (X : xCtx p R s m args meth c G base f N ρ0 adV cc own ini nL mc ms d Ts) {T : List (List (Option xE))} {rt : Nat} {C : xC} {Q : xQ} (hT : xallT (xwP own ini) T) (hD : xdecT cc 0 T = true) {pc : Nat} {ls : List (Option Value)} {st : List Value} {σ : xH} {b : Nat × Nat}  {len : Nat} {v : Int32} {ax : List Nat} (hf : xfetch T pc = some (.ishl, len, v, ax)) (h : xstp T rt C Q (xKM p l e R s m args below meth c Qf G base f N ρ0 σ0 nL mc ms) pc ls st σ b) : (xKM p l e R s m args below meth c Qf G base f N ρ0 σ0 nL mc ms) pc ls st σ b := by
  obtain ⟨hx, hb, hml, hown, hts, hW, hO, hcs, hfr, hin⟩ := X
  obtain ⟨hd, hwb, hj⟩ := xdecT_at hD hf
  have hw := xallT_at hT hf
  unfold xstp at h
  rw [hf] at h
  dsimp only at h hd
  have h1 : len = 1 := Nat.eq_of_beq_eq_true hwb
  subst h1
  split at h
  · exact xs_stk h (fun q => xok_c trivial (xok_t (xok_t q))) (fun ρ H locs cells slots mls hR hS hl hlo hst hE hcc hss k => lv_ishl hx hb hd k)
  · exact h.elim

set_option maxHeartbeats 4000000 in
theorem xs_ishr {p : Program} {l : Launch} {e : Env} {R : Room} {s : State} {m : MethodId} {args : Array Value} {below : List Frame} {meth : Method} {c : Code} {Qf : State → Prop} {G : xG} {base : Nat} {f : Nat → Nat → Int32} {N : Nat} {ρ0 : Nat → Nat} {σ0 : xH} {adV : Nat → Nat} {cc : ByteArray} {own : String} {ini : Bool} {nL mc ms d : Nat} {Ts : List Cond} (X : xCtx p R s m args meth c G base f N ρ0 adV cc own ini nL mc ms d Ts) {T : List (List (Option xE))} {rt : Nat} {C : xC} {Q : xQ} (hT : xallT (xwP own ini) T) (hD : xdecT cc 0 T = true) {pc : Nat} {ls : List (Option Value)} {st : List Value} {σ : xH} {b : Nat × Nat}  {len : Nat} {v : Int32} {ax : List Nat} (hf : xfetch T pc = some (.ishr, len, v, ax)) (h : xstp T rt C Q (xKM p l e R s m args below meth c Qf G base f N ρ0 σ0 nL mc ms) pc ls st σ b) : (xKM p l e R s m args below meth c Qf G base f N ρ0 σ0 nL mc ms) pc ls st σ b := by
  obtain ⟨hx, hb, hml, hown, hts, hW, hO, hcs, hfr, hin⟩ := X
  obtain ⟨hd, hwb, hj⟩ := xdecT_at hD hf
  have hw := xallT_at hT hf
  unfold xstp at h
  rw [hf] at h
  dsimp only at h hd
  have h1 : len = 1 := Nat.eq_of_beq_eq_true hwb
  subst h1
  split at h
  · exact xs_stk h (fun q => xok_c trivial (xok_t (xok_t q))) (fun ρ H locs cells slots mls hR hS hl hlo hst hE hcc hss k => lv_ishr hx hb hd k)
  · exact h.elim

set_option maxHeartbeats 4000000 in
theorem xs_iushr {p : Program} {l : Launch} {e : Env} {R : Room} {s : State} {m : MethodId} {args : Array Value} {below : List Frame} {meth : Method} {c : Code} {Qf : State → Prop} {G : xG} {base : Nat} {f : Nat → Nat → Int32} {N : Nat} {ρ0 : Nat → Nat} {σ0 : xH} {adV : Nat → Nat} {cc : ByteArray} {own : String} {ini : Bool} {nL mc ms d : Nat} {Ts : List Cond} (X : xCtx p R s m args meth c G base f N ρ0 adV cc own ini nL mc ms d Ts) {T : List (List (Option xE))} {rt : Nat} {C : xC} {Q : xQ} (hT : xallT (xwP own ini) T) (hD : xdecT cc 0 T = true) {pc : Nat} {ls : List (Option Value)} {st : List Value} {σ : xH} {b : Nat × Nat}  {len : Nat} {v : Int32} {ax : List Nat} (hf : xfetch T pc = some (.iushr, len, v, ax)) (h : xstp T rt C Q (xKM p l e R s m args below meth c Qf G base f N ρ0 σ0 nL mc ms) pc ls st σ b) : (xKM p l e R s m args below meth c Qf G base f N ρ0 σ0 nL mc ms) pc ls st σ b := by
  obtain ⟨hx, hb, hml, hown, hts, hW, hO, hcs, hfr, hin⟩ := X
  obtain ⟨hd, hwb, hj⟩ := xdecT_at hD hf
  have hw := xallT_at hT hf
  unfold xstp at h
  rw [hf] at h
  dsimp only at h hd
  have h1 : len = 1 := Nat.eq_of_beq_eq_true hwb
  subst h1
  split at h
  · exact xs_stk h (fun q => xok_c trivial (xok_t (xok_t q))) (fun ρ H locs cells slots mls hR hS hl hlo hst hE hcc hss k => lv_iushr hx hb hd rfl k)
  · exact h.elim

set_option maxHeartbeats 4000000 in
theorem xs_land {p : Program} {l : Launch} {e : Env} {R : Room} {s : State} {m : MethodId} {args : Array Value} {below : List Frame} {meth : Method} {c : Code} {Qf : State → Prop} {G : xG} {base : Nat} {f : Nat → Nat → Int32} {N : Nat} {ρ0 : Nat → Nat} {σ0 : xH} {adV : Nat → Nat} {cc : ByteArray} {own : String} {ini : Bool} {nL mc ms d : Nat} {Ts : List Cond} (X : xCtx p R s m args meth c G base f N ρ0 adV cc own ini nL mc ms d Ts) {T : List (List (Option xE))} {rt : Nat} {C : xC} {Q : xQ} (hT : xallT (xwP own ini) T) (hD : xdecT cc 0 T = true) {pc : Nat} {ls : List (Option Value)} {st : List Value} {σ : xH} {b : Nat × Nat}  {len : Nat} {v : Int32} {ax : List Nat} (hf : xfetch T pc = some (.land, len, v, ax)) (h : xstp T rt C Q (xKM p l e R s m args below meth c Qf G base f N ρ0 σ0 nL mc ms) pc ls st σ b) : (xKM p l e R s m args below meth c Qf G base f N ρ0 σ0 nL mc ms) pc ls st σ b := by
  obtain ⟨hx, hb, hml, hown, hts, hW, hO, hcs, hfr, hin⟩ := X
  obtain ⟨hd, hwb, hj⟩ := xdecT_at hD hf
  have hw := xallT_at hT hf
  unfold xstp at h
  rw [hf] at h
  dsimp only at h hd
  have h1 : len = 1 := Nat.eq_of_beq_eq_true hwb
  subst h1
  split at h
  · exact xs_stk h (fun q => xok_c trivial (xok_t (xok_t q))) (fun ρ H locs cells slots mls hR hS hl hlo hst hE hcc hss k => lv_land hx hb hd k)
  · exact h.elim

set_option maxHeartbeats 4000000 in
theorem xs_lor {p : Program} {l : Launch} {e : Env} {R : Room} {s : State} {m : MethodId} {args : Array Value} {below : List Frame} {meth : Method} {c : Code} {Qf : State → Prop} {G : xG} {base : Nat} {f : Nat → Nat → Int32} {N : Nat} {ρ0 : Nat → Nat} {σ0 : xH} {adV : Nat → Nat} {cc : ByteArray} {own : String} {ini : Bool} {nL mc ms d : Nat} {Ts : List Cond} (X : xCtx p R s m args meth c G base f N ρ0 adV cc own ini nL mc ms d Ts) {T : List (List (Option xE))} {rt : Nat} {C : xC} {Q : xQ} (hT : xallT (xwP own ini) T) (hD : xdecT cc 0 T = true) {pc : Nat} {ls : List (Option Value)} {st : List Value} {σ : xH} {b : Nat × Nat}  {len : Nat} {v : Int32} {ax : List Nat} (hf : xfetch T pc = some (.lor, len, v, ax)) (h : xstp T rt C Q (xKM p l e R s m args below meth c Qf G base f N ρ0 σ0 nL mc ms) pc ls st σ b) : (xKM p l e R s m args below meth c Qf G base f N ρ0 σ0 nL mc ms) pc ls st σ b := by
  obtain ⟨hx, hb, hml, hown, hts, hW, hO, hcs, hfr, hin⟩ := X
  obtain ⟨hd, hwb, hj⟩ := xdecT_at hD hf
  have hw := xallT_at hT hf
  unfold xstp at h
  rw [hf] at h
  dsimp only at h hd
  have h1 : len = 1 := Nat.eq_of_beq_eq_true hwb
  subst h1
  split at h
  · exact xs_stk h (fun q => xok_c trivial (xok_t (xok_t q))) (fun ρ H locs cells slots mls hR hS hl hlo hst hE hcc hss k => lv_lor hx hb hd k)
  · exact h.elim

set_option maxHeartbeats 4000000 in
theorem xs_lshl {p : Program} {l : Launch} {e : Env} {R : Room} {s : State} {m : MethodId} {args : Array Value} {below : List Frame} {meth : Method} {c : Code} {Qf : State → Prop} {G : xG} {base : Nat} {f : Nat → Nat → Int32} {N : Nat} {ρ0 : Nat → Nat} {σ0 : xH} {adV : Nat → Nat} {cc : ByteArray} {own : String} {ini : Bool} {nL mc ms d : Nat} {Ts : List Cond} (X : xCtx p R s m args meth c G base f N ρ0 adV cc own ini nL mc ms d Ts) {T : List (List (Option xE))} {rt : Nat} {C : xC} {Q : xQ} (hT : xallT (xwP own ini) T) (hD : xdecT cc 0 T = true) {pc : Nat} {ls : List (Option Value)} {st : List Value} {σ : xH} {b : Nat × Nat}  {len : Nat} {v : Int32} {ax : List Nat} (hf : xfetch T pc = some (.lshl, len, v, ax)) (h : xstp T rt C Q (xKM p l e R s m args below meth c Qf G base f N ρ0 σ0 nL mc ms) pc ls st σ b) : (xKM p l e R s m args below meth c Qf G base f N ρ0 σ0 nL mc ms) pc ls st σ b := by
  obtain ⟨hx, hb, hml, hown, hts, hW, hO, hcs, hfr, hin⟩ := X
  obtain ⟨hd, hwb, hj⟩ := xdecT_at hD hf
  have hw := xallT_at hT hf
  unfold xstp at h
  rw [hf] at h
  dsimp only at h hd
  have h1 : len = 1 := Nat.eq_of_beq_eq_true hwb
  subst h1
  split at h
  · exact xs_stk h (fun q => xok_c trivial (xok_t (xok_t q))) (fun ρ H locs cells slots mls hR hS hl hlo hst hE hcc hss k => lv_lshl hx hb hd rfl k)
  · exact h.elim

set_option maxHeartbeats 4000000 in
theorem xs_lcmp {p : Program} {l : Launch} {e : Env} {R : Room} {s : State} {m : MethodId} {args : Array Value} {below : List Frame} {meth : Method} {c : Code} {Qf : State → Prop} {G : xG} {base : Nat} {f : Nat → Nat → Int32} {N : Nat} {ρ0 : Nat → Nat} {σ0 : xH} {adV : Nat → Nat} {cc : ByteArray} {own : String} {ini : Bool} {nL mc ms d : Nat} {Ts : List Cond} (X : xCtx p R s m args meth c G base f N ρ0 adV cc own ini nL mc ms d Ts) {T : List (List (Option xE))} {rt : Nat} {C : xC} {Q : xQ} (hT : xallT (xwP own ini) T) (hD : xdecT cc 0 T = true) {pc : Nat} {ls : List (Option Value)} {st : List Value} {σ : xH} {b : Nat × Nat}  {len : Nat} {v : Int32} {ax : List Nat} (hf : xfetch T pc = some (.lcmp, len, v, ax)) (h : xstp T rt C Q (xKM p l e R s m args below meth c Qf G base f N ρ0 σ0 nL mc ms) pc ls st σ b) : (xKM p l e R s m args below meth c Qf G base f N ρ0 σ0 nL mc ms) pc ls st σ b := by
  obtain ⟨hx, hb, hml, hown, hts, hW, hO, hcs, hfr, hin⟩ := X
  obtain ⟨hd, hwb, hj⟩ := xdecT_at hD hf
  have hw := xallT_at hT hf
  unfold xstp at h
  rw [hf] at h
  dsimp only at h hd
  have h1 : len = 1 := Nat.eq_of_beq_eq_true hwb
  subst h1
  split at h
  · rename_i y x r
    refine xs_stk h (fun q => xok_c trivial (xok_t (xok_t q))) (fun ρ H locs cells slots mls hR hS hl hlo hst hE hcc hss k => W.lcmp hx hb hd ?_)
    rw [← x_lcmp]
    exact k
  · exact h.elim

set_option maxHeartbeats 4000000 in
theorem xs_idiv {p : Program} {l : Launch} {e : Env} {R : Room} {s : State} {m : MethodId} {args : Array Value} {below : List Frame} {meth : Method} {c : Code} {Qf : State → Prop} {G : xG} {base : Nat} {f : Nat → Nat → Int32} {N : Nat} {ρ0 : Nat → Nat} {σ0 : xH} {adV : Nat → Nat} {cc : ByteArray} {own : String} {ini : Bool} {nL mc ms d : Nat} {Ts : List Cond} (X : xCtx p R s m args meth c G base f N ρ0 adV cc own ini nL mc ms d Ts) {T : List (List (Option xE))} {rt : Nat} {C : xC} {Q : xQ} (hT : xallT (xwP own ini) T) (hD : xdecT cc 0 T = true) {pc : Nat} {ls : List (Option Value)} {st : List Value} {σ : xH} {b : Nat × Nat}  {len : Nat} {v : Int32} {ax : List Nat} (hf : xfetch T pc = some (.idiv, len, v, ax)) (h : xstp T rt C Q (xKM p l e R s m args below meth c Qf G base f N ρ0 σ0 nL mc ms) pc ls st σ b) : (xKM p l e R s m args below meth c Qf G base f N ρ0 σ0 nL mc ms) pc ls st σ b := by
  obtain ⟨hx, hb, hml, hown, hts, hW, hO, hcs, hfr, hin⟩ := X
  obtain ⟨hd, hwb, hj⟩ := xdecT_at hD hf
  have hw := xallT_at hT hf
  unfold xstp at h
  rw [hf] at h
  dsimp only at h hd
  have h1 : len = 1 := Nat.eq_of_beq_eq_true hwb
  subst h1
  split at h
  · split at h
    · exact h.elim
    · rename_i hne
      exact xs_stk h (fun q => xok_c trivial (xok_t (xok_t q))) (fun ρ H locs cells slots mls hR hS hl hlo hst hE hcc hss k => lv_idiv hx hb hd hne k)
  · exact h.elim

set_option maxHeartbeats 4000000 in
theorem xs_irem {p : Program} {l : Launch} {e : Env} {R : Room} {s : State} {m : MethodId} {args : Array Value} {below : List Frame} {meth : Method} {c : Code} {Qf : State → Prop} {G : xG} {base : Nat} {f : Nat → Nat → Int32} {N : Nat} {ρ0 : Nat → Nat} {σ0 : xH} {adV : Nat → Nat} {cc : ByteArray} {own : String} {ini : Bool} {nL mc ms d : Nat} {Ts : List Cond} (X : xCtx p R s m args meth c G base f N ρ0 adV cc own ini nL mc ms d Ts) {T : List (List (Option xE))} {rt : Nat} {C : xC} {Q : xQ} (hT : xallT (xwP own ini) T) (hD : xdecT cc 0 T = true) {pc : Nat} {ls : List (Option Value)} {st : List Value} {σ : xH} {b : Nat × Nat}  {len : Nat} {v : Int32} {ax : List Nat} (hf : xfetch T pc = some (.irem, len, v, ax)) (h : xstp T rt C Q (xKM p l e R s m args below meth c Qf G base f N ρ0 σ0 nL mc ms) pc ls st σ b) : (xKM p l e R s m args below meth c Qf G base f N ρ0 σ0 nL mc ms) pc ls st σ b := by
  obtain ⟨hx, hb, hml, hown, hts, hW, hO, hcs, hfr, hin⟩ := X
  obtain ⟨hd, hwb, hj⟩ := xdecT_at hD hf
  have hw := xallT_at hT hf
  unfold xstp at h
  rw [hf] at h
  dsimp only at h hd
  have h1 : len = 1 := Nat.eq_of_beq_eq_true hwb
  subst h1
  split at h
  · split at h
    · exact h.elim
    · rename_i hne
      exact xs_stk h (fun q => xok_c trivial (xok_t (xok_t q))) (fun ρ H locs cells slots mls hR hS hl hlo hst hE hcc hss k => lv_irem hx hb hd hne k)
  · exact h.elim

set_option maxHeartbeats 4000000 in
theorem xs_ineg {p : Program} {l : Launch} {e : Env} {R : Room} {s : State} {m : MethodId} {args : Array Value} {below : List Frame} {meth : Method} {c : Code} {Qf : State → Prop} {G : xG} {base : Nat} {f : Nat → Nat → Int32} {N : Nat} {ρ0 : Nat → Nat} {σ0 : xH} {adV : Nat → Nat} {cc : ByteArray} {own : String} {ini : Bool} {nL mc ms d : Nat} {Ts : List Cond} (X : xCtx p R s m args meth c G base f N ρ0 adV cc own ini nL mc ms d Ts) {T : List (List (Option xE))} {rt : Nat} {C : xC} {Q : xQ} (hT : xallT (xwP own ini) T) (hD : xdecT cc 0 T = true) {pc : Nat} {ls : List (Option Value)} {st : List Value} {σ : xH} {b : Nat × Nat}  {len : Nat} {v : Int32} {ax : List Nat} (hf : xfetch T pc = some (.ineg, len, v, ax)) (h : xstp T rt C Q (xKM p l e R s m args below meth c Qf G base f N ρ0 σ0 nL mc ms) pc ls st σ b) : (xKM p l e R s m args below meth c Qf G base f N ρ0 σ0 nL mc ms) pc ls st σ b := by
  obtain ⟨hx, hb, hml, hown, hts, hW, hO, hcs, hfr, hin⟩ := X
  obtain ⟨hd, hwb, hj⟩ := xdecT_at hD hf
  have hw := xallT_at hT hf
  unfold xstp at h
  rw [hf] at h
  dsimp only at h hd
  have h1 : len = 1 := Nat.eq_of_beq_eq_true hwb
  subst h1
  split at h
  · exact xs_stk h (fun q => xok_c trivial (xok_t q)) (fun ρ H locs cells slots mls hR hS hl hlo hst hE hcc hss k => lv_ineg hx hb hd k)
  · exact h.elim

set_option maxHeartbeats 4000000 in
theorem xs_i2l {p : Program} {l : Launch} {e : Env} {R : Room} {s : State} {m : MethodId} {args : Array Value} {below : List Frame} {meth : Method} {c : Code} {Qf : State → Prop} {G : xG} {base : Nat} {f : Nat → Nat → Int32} {N : Nat} {ρ0 : Nat → Nat} {σ0 : xH} {adV : Nat → Nat} {cc : ByteArray} {own : String} {ini : Bool} {nL mc ms d : Nat} {Ts : List Cond} (X : xCtx p R s m args meth c G base f N ρ0 adV cc own ini nL mc ms d Ts) {T : List (List (Option xE))} {rt : Nat} {C : xC} {Q : xQ} (hT : xallT (xwP own ini) T) (hD : xdecT cc 0 T = true) {pc : Nat} {ls : List (Option Value)} {st : List Value} {σ : xH} {b : Nat × Nat}  {len : Nat} {v : Int32} {ax : List Nat} (hf : xfetch T pc = some (.i2l, len, v, ax)) (h : xstp T rt C Q (xKM p l e R s m args below meth c Qf G base f N ρ0 σ0 nL mc ms) pc ls st σ b) : (xKM p l e R s m args below meth c Qf G base f N ρ0 σ0 nL mc ms) pc ls st σ b := by
  obtain ⟨hx, hb, hml, hown, hts, hW, hO, hcs, hfr, hin⟩ := X
  obtain ⟨hd, hwb, hj⟩ := xdecT_at hD hf
  have hw := xallT_at hT hf
  unfold xstp at h
  rw [hf] at h
  dsimp only at h hd
  have h1 : len = 1 := Nat.eq_of_beq_eq_true hwb
  subst h1
  split at h
  · exact xs_stk h (fun q => xok_c trivial (xok_t q)) (fun ρ H locs cells slots mls hR hS hl hlo hst hE hcc hss k => lv_i2l hx hb hd rfl k)
  · exact h.elim

set_option maxHeartbeats 4000000 in
theorem xs_l2i {p : Program} {l : Launch} {e : Env} {R : Room} {s : State} {m : MethodId} {args : Array Value} {below : List Frame} {meth : Method} {c : Code} {Qf : State → Prop} {G : xG} {base : Nat} {f : Nat → Nat → Int32} {N : Nat} {ρ0 : Nat → Nat} {σ0 : xH} {adV : Nat → Nat} {cc : ByteArray} {own : String} {ini : Bool} {nL mc ms d : Nat} {Ts : List Cond} (X : xCtx p R s m args meth c G base f N ρ0 adV cc own ini nL mc ms d Ts) {T : List (List (Option xE))} {rt : Nat} {C : xC} {Q : xQ} (hT : xallT (xwP own ini) T) (hD : xdecT cc 0 T = true) {pc : Nat} {ls : List (Option Value)} {st : List Value} {σ : xH} {b : Nat × Nat}  {len : Nat} {v : Int32} {ax : List Nat} (hf : xfetch T pc = some (.l2i, len, v, ax)) (h : xstp T rt C Q (xKM p l e R s m args below meth c Qf G base f N ρ0 σ0 nL mc ms) pc ls st σ b) : (xKM p l e R s m args below meth c Qf G base f N ρ0 σ0 nL mc ms) pc ls st σ b := by
  obtain ⟨hx, hb, hml, hown, hts, hW, hO, hcs, hfr, hin⟩ := X
  obtain ⟨hd, hwb, hj⟩ := xdecT_at hD hf
  have hw := xallT_at hT hf
  unfold xstp at h
  rw [hf] at h
  dsimp only at h hd
  have h1 : len = 1 := Nat.eq_of_beq_eq_true hwb
  subst h1
  split at h
  · exact xs_stk h (fun q => xok_c trivial (xok_t q)) (fun ρ H locs cells slots mls hR hS hl hlo hst hE hcc hss k => lv_l2i hx hb hd rfl k)
  · exact h.elim

set_option maxHeartbeats 4000000 in
theorem xs_i2b {p : Program} {l : Launch} {e : Env} {R : Room} {s : State} {m : MethodId} {args : Array Value} {below : List Frame} {meth : Method} {c : Code} {Qf : State → Prop} {G : xG} {base : Nat} {f : Nat → Nat → Int32} {N : Nat} {ρ0 : Nat → Nat} {σ0 : xH} {adV : Nat → Nat} {cc : ByteArray} {own : String} {ini : Bool} {nL mc ms d : Nat} {Ts : List Cond} (X : xCtx p R s m args meth c G base f N ρ0 adV cc own ini nL mc ms d Ts) {T : List (List (Option xE))} {rt : Nat} {C : xC} {Q : xQ} (hT : xallT (xwP own ini) T) (hD : xdecT cc 0 T = true) {pc : Nat} {ls : List (Option Value)} {st : List Value} {σ : xH} {b : Nat × Nat}  {len : Nat} {v : Int32} {ax : List Nat} (hf : xfetch T pc = some (.i2b, len, v, ax)) (h : xstp T rt C Q (xKM p l e R s m args below meth c Qf G base f N ρ0 σ0 nL mc ms) pc ls st σ b) : (xKM p l e R s m args below meth c Qf G base f N ρ0 σ0 nL mc ms) pc ls st σ b := by
  obtain ⟨hx, hb, hml, hown, hts, hW, hO, hcs, hfr, hin⟩ := X
  obtain ⟨hd, hwb, hj⟩ := xdecT_at hD hf
  have hw := xallT_at hT hf
  unfold xstp at h
  rw [hf] at h
  dsimp only at h hd
  have h1 : len = 1 := Nat.eq_of_beq_eq_true hwb
  subst h1
  split at h
  · exact xs_stk h (fun q => xok_c trivial (xok_t q)) (fun ρ H locs cells slots mls hR hS hl hlo hst hE hcc hss k => lv_i2b hx hb hd rfl k)
  · exact h.elim

set_option maxHeartbeats 4000000 in
theorem xs_i2s {p : Program} {l : Launch} {e : Env} {R : Room} {s : State} {m : MethodId} {args : Array Value} {below : List Frame} {meth : Method} {c : Code} {Qf : State → Prop} {G : xG} {base : Nat} {f : Nat → Nat → Int32} {N : Nat} {ρ0 : Nat → Nat} {σ0 : xH} {adV : Nat → Nat} {cc : ByteArray} {own : String} {ini : Bool} {nL mc ms d : Nat} {Ts : List Cond} (X : xCtx p R s m args meth c G base f N ρ0 adV cc own ini nL mc ms d Ts) {T : List (List (Option xE))} {rt : Nat} {C : xC} {Q : xQ} (hT : xallT (xwP own ini) T) (hD : xdecT cc 0 T = true) {pc : Nat} {ls : List (Option Value)} {st : List Value} {σ : xH} {b : Nat × Nat}  {len : Nat} {v : Int32} {ax : List Nat} (hf : xfetch T pc = some (.i2s, len, v, ax)) (h : xstp T rt C Q (xKM p l e R s m args below meth c Qf G base f N ρ0 σ0 nL mc ms) pc ls st σ b) : (xKM p l e R s m args below meth c Qf G base f N ρ0 σ0 nL mc ms) pc ls st σ b := by
  obtain ⟨hx, hb, hml, hown, hts, hW, hO, hcs, hfr, hin⟩ := X
  obtain ⟨hd, hwb, hj⟩ := xdecT_at hD hf
  have hw := xallT_at hT hf
  unfold xstp at h
  rw [hf] at h
  dsimp only at h hd
  have h1 : len = 1 := Nat.eq_of_beq_eq_true hwb
  subst h1
  split at h
  · exact xs_stk h (fun q => xok_c trivial (xok_t q)) (fun ρ H locs cells slots mls hR hS hl hlo hst hE hcc hss k => lv_i2s hx hb hd rfl k)
  · exact h.elim

set_option maxHeartbeats 4000000 in
theorem xs_null {p : Program} {l : Launch} {e : Env} {R : Room} {s : State} {m : MethodId} {args : Array Value} {below : List Frame} {meth : Method} {c : Code} {Qf : State → Prop} {G : xG} {base : Nat} {f : Nat → Nat → Int32} {N : Nat} {ρ0 : Nat → Nat} {σ0 : xH} {adV : Nat → Nat} {cc : ByteArray} {own : String} {ini : Bool} {nL mc ms d : Nat} {Ts : List Cond} (X : xCtx p R s m args meth c G base f N ρ0 adV cc own ini nL mc ms d Ts) {T : List (List (Option xE))} {rt : Nat} {C : xC} {Q : xQ} (hT : xallT (xwP own ini) T) (hD : xdecT cc 0 T = true) {pc : Nat} {ls : List (Option Value)} {st : List Value} {σ : xH} {b : Nat × Nat}  {len : Nat} {v : Int32} {ax : List Nat} (hf : xfetch T pc = some (.aconst_null, len, v, ax)) (h : xstp T rt C Q (xKM p l e R s m args below meth c Qf G base f N ρ0 σ0 nL mc ms) pc ls st σ b) : (xKM p l e R s m args below meth c Qf G base f N ρ0 σ0 nL mc ms) pc ls st σ b := by
  obtain ⟨hx, hb, hml, hown, hts, hW, hO, hcs, hfr, hin⟩ := X
  obtain ⟨hd, hwb, hj⟩ := xdecT_at hD hf
  have hw := xallT_at hT hf
  unfold xstp at h
  rw [hf] at h
  dsimp only at h hd
  have h1 : len = 1 := Nat.eq_of_beq_eq_true hwb
  subst h1
  exact xs_stk h (fun q => xok_c trivial q) (fun ρ H locs cells slots mls hR hS hl hlo hst hE hcc hss k => lv_null hx hb hd k)

set_option maxHeartbeats 4000000 in
theorem xs_pop {p : Program} {l : Launch} {e : Env} {R : Room} {s : State} {m : MethodId} {args : Array Value} {below : List Frame} {meth : Method} {c : Code} {Qf : State → Prop} {G : xG} {base : Nat} {f : Nat → Nat → Int32} {N : Nat} {ρ0 : Nat → Nat} {σ0 : xH} {adV : Nat → Nat} {cc : ByteArray} {own : String} {ini : Bool} {nL mc ms d : Nat} {Ts : List Cond} (X : xCtx p R s m args meth c G base f N ρ0 adV cc own ini nL mc ms d Ts) {T : List (List (Option xE))} {rt : Nat} {C : xC} {Q : xQ} (hT : xallT (xwP own ini) T) (hD : xdecT cc 0 T = true) {pc : Nat} {ls : List (Option Value)} {st : List Value} {σ : xH} {b : Nat × Nat}  {len : Nat} {v : Int32} {ax : List Nat} (hf : xfetch T pc = some (.pop, len, v, ax)) (h : xstp T rt C Q (xKM p l e R s m args below meth c Qf G base f N ρ0 σ0 nL mc ms) pc ls st σ b) : (xKM p l e R s m args below meth c Qf G base f N ρ0 σ0 nL mc ms) pc ls st σ b := by
  obtain ⟨hx, hb, hml, hown, hts, hW, hO, hcs, hfr, hin⟩ := X
  obtain ⟨hd, hwb, hj⟩ := xdecT_at hD hf
  have hw := xallT_at hT hf
  unfold xstp at h
  rw [hf] at h
  dsimp only at h hd
  have h1 : len = 1 := Nat.eq_of_beq_eq_true hwb
  subst h1
  split at h
  · exact xs_stk h xok_t (fun ρ H locs cells slots mls hR hS hl hlo hst hE hcc hss k => lv_pop hx hb hd rfl k)
  · exact xs_stk h xok_t (fun ρ H locs cells slots mls hR hS hl hlo hst hE hcc hss k => lv_pop hx hb hd rfl k)
  · exact h.elim

set_option maxHeartbeats 4000000 in
theorem xs_dup {p : Program} {l : Launch} {e : Env} {R : Room} {s : State} {m : MethodId} {args : Array Value} {below : List Frame} {meth : Method} {c : Code} {Qf : State → Prop} {G : xG} {base : Nat} {f : Nat → Nat → Int32} {N : Nat} {ρ0 : Nat → Nat} {σ0 : xH} {adV : Nat → Nat} {cc : ByteArray} {own : String} {ini : Bool} {nL mc ms d : Nat} {Ts : List Cond} (X : xCtx p R s m args meth c G base f N ρ0 adV cc own ini nL mc ms d Ts) {T : List (List (Option xE))} {rt : Nat} {C : xC} {Q : xQ} (hT : xallT (xwP own ini) T) (hD : xdecT cc 0 T = true) {pc : Nat} {ls : List (Option Value)} {st : List Value} {σ : xH} {b : Nat × Nat}  {len : Nat} {v : Int32} {ax : List Nat} (hf : xfetch T pc = some (.dup, len, v, ax)) (h : xstp T rt C Q (xKM p l e R s m args below meth c Qf G base f N ρ0 σ0 nL mc ms) pc ls st σ b) : (xKM p l e R s m args below meth c Qf G base f N ρ0 σ0 nL mc ms) pc ls st σ b := by
  obtain ⟨hx, hb, hml, hown, hts, hW, hO, hcs, hfr, hin⟩ := X
  obtain ⟨hd, hwb, hj⟩ := xdecT_at hD hf
  have hw := xallT_at hT hf
  unfold xstp at h
  rw [hf] at h
  dsimp only at h hd
  have h1 : len = 1 := Nat.eq_of_beq_eq_true hwb
  subst h1
  split at h
  · exact xs_stk h (fun q => xok_c trivial q) (fun ρ H locs cells slots mls hR hS hl hlo hst hE hcc hss k => lv_dup hx hb hd rfl k)
  · exact xs_stk h (fun q => xok_c (q _ List.mem_cons_self) q) (fun ρ H locs cells slots mls hR hS hl hlo hst hE hcc hss k => lv_dup hx hb hd rfl k)
  · exact h.elim

set_option maxHeartbeats 4000000 in
theorem xs_dup_x1 {p : Program} {l : Launch} {e : Env} {R : Room} {s : State} {m : MethodId} {args : Array Value} {below : List Frame} {meth : Method} {c : Code} {Qf : State → Prop} {G : xG} {base : Nat} {f : Nat → Nat → Int32} {N : Nat} {ρ0 : Nat → Nat} {σ0 : xH} {adV : Nat → Nat} {cc : ByteArray} {own : String} {ini : Bool} {nL mc ms d : Nat} {Ts : List Cond} (X : xCtx p R s m args meth c G base f N ρ0 adV cc own ini nL mc ms d Ts) {T : List (List (Option xE))} {rt : Nat} {C : xC} {Q : xQ} (hT : xallT (xwP own ini) T) (hD : xdecT cc 0 T = true) {pc : Nat} {ls : List (Option Value)} {st : List Value} {σ : xH} {b : Nat × Nat}  {len : Nat} {v : Int32} {ax : List Nat} (hf : xfetch T pc = some (.dup_x1, len, v, ax)) (h : xstp T rt C Q (xKM p l e R s m args below meth c Qf G base f N ρ0 σ0 nL mc ms) pc ls st σ b) : (xKM p l e R s m args below meth c Qf G base f N ρ0 σ0 nL mc ms) pc ls st σ b := by
  obtain ⟨hx, hb, hml, hown, hts, hW, hO, hcs, hfr, hin⟩ := X
  obtain ⟨hd, hwb, hj⟩ := xdecT_at hD hf
  have hw := xallT_at hT hf
  unfold xstp at h
  rw [hf] at h
  dsimp only at h hd
  have h1 : len = 1 := Nat.eq_of_beq_eq_true hwb
  subst h1
  split at h
  · exact xs_stk h (fun q => xok_c trivial (xok_c (xok_t q _ List.mem_cons_self) (xok_c trivial (xok_t (xok_t q))))) (fun ρ H locs cells slots mls hR hS hl hlo hst hE hcc hss k => lv_dup_x1 hx hb hd rfl rfl k)
  · exact h.elim

set_option maxHeartbeats 4000000 in
theorem xs_dup2 {p : Program} {l : Launch} {e : Env} {R : Room} {s : State} {m : MethodId} {args : Array Value} {below : List Frame} {meth : Method} {c : Code} {Qf : State → Prop} {G : xG} {base : Nat} {f : Nat → Nat → Int32} {N : Nat} {ρ0 : Nat → Nat} {σ0 : xH} {adV : Nat → Nat} {cc : ByteArray} {own : String} {ini : Bool} {nL mc ms d : Nat} {Ts : List Cond} (X : xCtx p R s m args meth c G base f N ρ0 adV cc own ini nL mc ms d Ts) {T : List (List (Option xE))} {rt : Nat} {C : xC} {Q : xQ} (hT : xallT (xwP own ini) T) (hD : xdecT cc 0 T = true) {pc : Nat} {ls : List (Option Value)} {st : List Value} {σ : xH} {b : Nat × Nat}  {len : Nat} {v : Int32} {ax : List Nat} (hf : xfetch T pc = some (.dup2, len, v, ax)) (h : xstp T rt C Q (xKM p l e R s m args below meth c Qf G base f N ρ0 σ0 nL mc ms) pc ls st σ b) : (xKM p l e R s m args below meth c Qf G base f N ρ0 σ0 nL mc ms) pc ls st σ b := by
  obtain ⟨hx, hb, hml, hown, hts, hW, hO, hcs, hfr, hin⟩ := X
  obtain ⟨hd, hwb, hj⟩ := xdecT_at hD hf
  have hw := xallT_at hT hf
  unfold xstp at h
  rw [hf] at h
  dsimp only at h hd
  have h1 : len = 1 := Nat.eq_of_beq_eq_true hwb
  subst h1
  split at h
  · exact xs_stk h (fun q => xok_c trivial (xok_c (xok_t q _ List.mem_cons_self) q)) (fun ρ H locs cells slots mls hR hS hl hlo hst hE hcc hss k => lv_dup2_11 hx hb hd rfl rfl k)
  · exact h.elim

set_option maxHeartbeats 4000000 in
theorem xs_goto {p : Program} {l : Launch} {e : Env} {R : Room} {s : State} {m : MethodId} {args : Array Value} {below : List Frame} {meth : Method} {c : Code} {Qf : State → Prop} {G : xG} {base : Nat} {f : Nat → Nat → Int32} {N : Nat} {ρ0 : Nat → Nat} {σ0 : xH} {adV : Nat → Nat} {cc : ByteArray} {own : String} {ini : Bool} {nL mc ms d : Nat} {Ts : List Cond} (X : xCtx p R s m args meth c G base f N ρ0 adV cc own ini nL mc ms d Ts) {T : List (List (Option xE))} {rt : Nat} {C : xC} {Q : xQ} (hT : xallT (xwP own ini) T) (hD : xdecT cc 0 T = true) {pc : Nat} {ls : List (Option Value)} {st : List Value} {σ : xH} {b : Nat × Nat} {o : Int} {len : Nat} {v : Int32} {ax : List Nat} (hf : xfetch T pc = some (.goto o, len, v, ax)) (h : xstp T rt C Q (xKM p l e R s m args below meth c Qf G base f N ρ0 σ0 nL mc ms) pc ls st σ b) : (xKM p l e R s m args below meth c Qf G base f N ρ0 σ0 nL mc ms) pc ls st σ b := by
  obtain ⟨hx, hb, hml, hown, hts, hW, hO, hcs, hfr, hin⟩ := X
  obtain ⟨hd, hwb, hj⟩ := xdecT_at hD hf
  have hw := xallT_at hT hf
  unfold xstp at h
  rw [hf] at h
  dsimp only at h hd
  have h1 : len = 3 := Nat.eq_of_beq_eq_true hwb
  subst h1
  exact xs_stk h id (fun ρ H locs cells slots mls hR hS hl hlo hst hE hcc hss k => lv_goto hx hb hd (xjmp_eq hj) k)

set_option maxHeartbeats 4000000 in
theorem xs_if {p : Program} {l : Launch} {e : Env} {R : Room} {s : State} {m : MethodId} {args : Array Value} {below : List Frame} {meth : Method} {c : Code} {Qf : State → Prop} {G : xG} {base : Nat} {f : Nat → Nat → Int32} {N : Nat} {ρ0 : Nat → Nat} {σ0 : xH} {adV : Nat → Nat} {cc : ByteArray} {own : String} {ini : Bool} {nL mc ms d : Nat} {Ts : List Cond} (X : xCtx p R s m args meth c G base f N ρ0 adV cc own ini nL mc ms d Ts) {T : List (List (Option xE))} {rt : Nat} {C : xC} {Q : xQ} (hT : xallT (xwP own ini) T) (hD : xdecT cc 0 T = true) {pc : Nat} {ls : List (Option Value)} {st : List Value} {σ : xH} {b : Nat × Nat} {cd : ClassFile.Cond} {o : Int} {len : Nat} {v : Int32} {ax : List Nat} (hf : xfetch T pc = some (.ifCond cd o, len, v, ax)) (h : xstp T rt C Q (xKM p l e R s m args below meth c Qf G base f N ρ0 σ0 nL mc ms) pc ls st σ b) : (xKM p l e R s m args below meth c Qf G base f N ρ0 σ0 nL mc ms) pc ls st σ b := by
  obtain ⟨hx, hb, hml, hown, hts, hW, hO, hcs, hfr, hin⟩ := X
  obtain ⟨hd, hwb, hj⟩ := xdecT_at hD hf
  have hw := xallT_at hT hf
  unfold xstp at h
  rw [hf] at h
  dsimp only at h hd
  have h1 : len = 3 := Nat.eq_of_beq_eq_true hwb
  subst h1
  split at h
  · rename_i x r
    intro ρ H locs cells slots mls hR hS hc hs hn hl hlo hst hE
    have hst' := xok_t hst
    cases cd with
    | eq =>
      dsimp only [xcnd] at h
      refine lv_if_eq hx hb hd (xjmp_eq hj) (fun q => ?_) (fun q => ?_)
      · rw [if_pos q] at h
        exact h ρ H locs cells slots mls hR hS hc hs hn hl hlo hst' hE
      · rw [if_neg q] at h
        exact h ρ H locs cells slots mls hR hS hc hs hn hl hlo hst' hE
    | ne =>
      dsimp only [xcnd] at h
      refine lv_if_ne hx hb hd (xjmp_eq hj) (fun q => ?_) (fun q => ?_)
      · rw [if_neg q] at h
        exact h ρ H locs cells slots mls hR hS hc hs hn hl hlo hst' hE
      · rw [if_pos q] at h
        exact h ρ H locs cells slots mls hR hS hc hs hn hl hlo hst' hE
    | lt =>
      dsimp only [xcnd] at h
      refine lv_if_lt hx hb hd (xjmp_eq hj) (fun q => ?_) (fun q => ?_)
      · rw [if_pos q] at h
        exact h ρ H locs cells slots mls hR hS hc hs hn hl hlo hst' hE
      · rw [if_neg q] at h
        exact h ρ H locs cells slots mls hR hS hc hs hn hl hlo hst' hE
    | ge =>
      dsimp only [xcnd] at h
      refine lv_if_ge hx hb hd (xjmp_eq hj) (fun q => ?_) (fun q => ?_)
      · rw [if_neg (Int32.not_lt.mpr q)] at h
        exact h ρ H locs cells slots mls hR hS hc hs hn hl hlo hst' hE
      · rw [if_pos (Int32.not_le.mp q)] at h
        exact h ρ H locs cells slots mls hR hS hc hs hn hl hlo hst' hE
    | gt =>
      dsimp only [xcnd] at h
      refine lv_if_gt hx hb hd (xjmp_eq hj) (fun q => ?_) (fun q => ?_)
      · rw [if_pos q] at h
        exact h ρ H locs cells slots mls hR hS hc hs hn hl hlo hst' hE
      · rw [if_neg q] at h
        exact h ρ H locs cells slots mls hR hS hc hs hn hl hlo hst' hE
    | le =>
      dsimp only [xcnd] at h
      refine lv_if_le hx hb hd (xjmp_eq hj) (fun q => ?_) (fun q => ?_)
      · rw [if_neg (Int32.not_lt.mpr q)] at h
        exact h ρ H locs cells slots mls hR hS hc hs hn hl hlo hst' hE
      · rw [if_pos (Int32.not_le.mp q)] at h
        exact h ρ H locs cells slots mls hR hS hc hs hn hl hlo hst' hE
  · exact h.elim

set_option maxHeartbeats 4000000 in
theorem xs_icmp {p : Program} {l : Launch} {e : Env} {R : Room} {s : State} {m : MethodId} {args : Array Value} {below : List Frame} {meth : Method} {c : Code} {Qf : State → Prop} {G : xG} {base : Nat} {f : Nat → Nat → Int32} {N : Nat} {ρ0 : Nat → Nat} {σ0 : xH} {adV : Nat → Nat} {cc : ByteArray} {own : String} {ini : Bool} {nL mc ms d : Nat} {Ts : List Cond} (X : xCtx p R s m args meth c G base f N ρ0 adV cc own ini nL mc ms d Ts) {T : List (List (Option xE))} {rt : Nat} {C : xC} {Q : xQ} (hT : xallT (xwP own ini) T) (hD : xdecT cc 0 T = true) {pc : Nat} {ls : List (Option Value)} {st : List Value} {σ : xH} {b : Nat × Nat} {cd : ClassFile.Cond} {o : Int} {len : Nat} {v : Int32} {ax : List Nat} (hf : xfetch T pc = some (.if_icmp cd o, len, v, ax)) (h : xstp T rt C Q (xKM p l e R s m args below meth c Qf G base f N ρ0 σ0 nL mc ms) pc ls st σ b) : (xKM p l e R s m args below meth c Qf G base f N ρ0 σ0 nL mc ms) pc ls st σ b := by
  obtain ⟨hx, hb, hml, hown, hts, hW, hO, hcs, hfr, hin⟩ := X
  obtain ⟨hd, hwb, hj⟩ := xdecT_at hD hf
  have hw := xallT_at hT hf
  unfold xstp at h
  rw [hf] at h
  dsimp only at h hd
  have h1 : len = 3 := Nat.eq_of_beq_eq_true hwb
  subst h1
  split at h
  · rename_i y x r
    intro ρ H locs cells slots mls hR hS hc hs hn hl hlo hst hE
    have hst' := xok_t (xok_t hst)
    cases cd with
    | eq =>
      dsimp only [xcnd] at h
      refine lv_icmp_eq hx hb hd (xjmp_eq hj) (fun q => ?_) (fun q => ?_)
      · rw [if_pos q] at h
        exact h ρ H locs cells slots mls hR hS hc hs hn hl hlo hst' hE
      · rw [if_neg q] at h
        exact h ρ H locs cells slots mls hR hS hc hs hn hl hlo hst' hE
    | ne =>
      dsimp only [xcnd] at h
      refine lv_icmp_ne hx hb hd (xjmp_eq hj) (fun q => ?_) (fun q => ?_)
      · rw [if_neg q] at h
        exact h ρ H locs cells slots mls hR hS hc hs hn hl hlo hst' hE
      · rw [if_pos q] at h
        exact h ρ H locs cells slots mls hR hS hc hs hn hl hlo hst' hE
    | lt =>
      dsimp only [xcnd] at h
      refine lv_icmp_lt hx hb hd (xjmp_eq hj) (fun q => ?_) (fun q => ?_)
      · rw [if_pos q] at h
        exact h ρ H locs cells slots mls hR hS hc hs hn hl hlo hst' hE
      · rw [if_neg q] at h
        exact h ρ H locs cells slots mls hR hS hc hs hn hl hlo hst' hE
    | ge =>
      dsimp only [xcnd] at h
      refine lv_icmp_ge hx hb hd (xjmp_eq hj) (fun q => ?_) (fun q => ?_)
      · rw [if_neg (Int32.not_lt.mpr q)] at h
        exact h ρ H locs cells slots mls hR hS hc hs hn hl hlo hst' hE
      · rw [if_pos (Int32.not_le.mp q)] at h
        exact h ρ H locs cells slots mls hR hS hc hs hn hl hlo hst' hE
    | gt =>
      dsimp only [xcnd] at h
      refine lv_icmp_gt hx hb hd (xjmp_eq hj) (fun q => ?_) (fun q => ?_)
      · rw [if_pos q] at h
        exact h ρ H locs cells slots mls hR hS hc hs hn hl hlo hst' hE
      · rw [if_neg q] at h
        exact h ρ H locs cells slots mls hR hS hc hs hn hl hlo hst' hE
    | le =>
      dsimp only [xcnd] at h
      refine lv_icmp_le hx hb hd (xjmp_eq hj) (fun q => ?_) (fun q => ?_)
      · rw [if_neg (Int32.not_lt.mpr q)] at h
        exact h ρ H locs cells slots mls hR hS hc hs hn hl hlo hst' hE
      · rw [if_pos (Int32.not_le.mp q)] at h
        exact h ρ H locs cells slots mls hR hS hc hs hn hl hlo hst' hE
  · exact h.elim

set_option maxHeartbeats 4000000 in
theorem xs_ifnonnull {p : Program} {l : Launch} {e : Env} {R : Room} {s : State} {m : MethodId} {args : Array Value} {below : List Frame} {meth : Method} {c : Code} {Qf : State → Prop} {G : xG} {base : Nat} {f : Nat → Nat → Int32} {N : Nat} {ρ0 : Nat → Nat} {σ0 : xH} {adV : Nat → Nat} {cc : ByteArray} {own : String} {ini : Bool} {nL mc ms d : Nat} {Ts : List Cond} (X : xCtx p R s m args meth c G base f N ρ0 adV cc own ini nL mc ms d Ts) {T : List (List (Option xE))} {rt : Nat} {C : xC} {Q : xQ} (hT : xallT (xwP own ini) T) (hD : xdecT cc 0 T = true) {pc : Nat} {ls : List (Option Value)} {st : List Value} {σ : xH} {b : Nat × Nat} {o : Int} {len : Nat} {v : Int32} {ax : List Nat} (hf : xfetch T pc = some (.ifnonnull o, len, v, ax)) (h : xstp T rt C Q (xKM p l e R s m args below meth c Qf G base f N ρ0 σ0 nL mc ms) pc ls st σ b) : (xKM p l e R s m args below meth c Qf G base f N ρ0 σ0 nL mc ms) pc ls st σ b := by
  obtain ⟨hx, hb, hml, hown, hts, hW, hO, hcs, hfr, hin⟩ := X
  obtain ⟨hd, hwb, hj⟩ := xdecT_at hD hf
  have hw := xallT_at hT hf
  unfold xstp at h
  rw [hf] at h
  dsimp only at h hd
  have h1 : len = 3 := Nat.eq_of_beq_eq_true hwb
  subst h1
  split at h
  · exact xs_stk h xok_t (fun ρ H locs cells slots mls hR hS hl hlo hst hE hcc hss k => lv_ifnonnull hx hb hd (xjmp_eq hj) k)
  · exact xs_stk h xok_t (fun ρ H locs cells slots mls hR hS hl hlo hst hE hcc hss k => lv_ifnonnullN hx hb hd k)
  · exact h.elim

set_option maxHeartbeats 4000000 in
theorem xs_tsw {p : Program} {l : Launch} {e : Env} {R : Room} {s : State} {m : MethodId} {args : Array Value} {below : List Frame} {meth : Method} {c : Code} {Qf : State → Prop} {G : xG} {base : Nat} {f : Nat → Nat → Int32} {N : Nat} {ρ0 : Nat → Nat} {σ0 : xH} {adV : Nat → Nat} {cc : ByteArray} {own : String} {ini : Bool} {nL mc ms d : Nat} {Ts : List Cond} (X : xCtx p R s m args meth c G base f N ρ0 adV cc own ini nL mc ms d Ts) {T : List (List (Option xE))} {rt : Nat} {C : xC} {Q : xQ} (hT : xallT (xwP own ini) T) (hD : xdecT cc 0 T = true) {pc : Nat} {ls : List (Option Value)} {st : List Value} {σ : xH} {b : Nat × Nat} {dv lo hi : Int} {os : Array Int} {len : Nat} {v : Int32} {ax : List Nat} (hf : xfetch T pc = some (.tableswitch dv lo hi os, len, v, ax)) (h : xstp T rt C Q (xKM p l e R s m args below meth c Qf G base f N ρ0 σ0 nL mc ms) pc ls st σ b) : (xKM p l e R s m args below meth c Qf G base f N ρ0 σ0 nL mc ms) pc ls st σ b := by
  obtain ⟨hx, hb, hml, hown, hts, hW, hO, hcs, hfr, hin⟩ := X
  obtain ⟨hd, hwb, hj⟩ := xdecT_at hD hf
  have hw := xallT_at hT hf
  unfold xstp at h
  rw [hf] at h
  dsimp only at h hd
  split at h
  · rename_i x r
    simp only [xwB, Bool.and_eq_true, decide_eq_true_eq] at hwb
    obtain ⟨⟨⟨hw1, hw2⟩, hw3⟩, hw4⟩ := hwb
    simp only [xjB, Bool.and_eq_true] at hj
    obtain ⟨hj1, hj2⟩ := hj
    intro ρ H locs cells slots mls hR hS hc hs hn hl hlo hst hE
    have hsz : (os.toList.length : Int) = os.size := by simp
    obtain ⟨s1, s2⟩ := xsw_spec os.toList lo hw2 (by omega) h
    by_cases hq : x.toInt < lo ∨ hi < x.toInt
    · have h := s1 (by omega)
      exact lv_tableOut hx hb hd hq (xjmp_eq hj1) (h ρ H locs cells slots mls hR hS hc hs hn hl hlo (xok_t hst) hE)
    · obtain ⟨o, ho, h⟩ := s2 (x.toInt - lo).toNat (by omega) (by omega)
      have ho' : os[(x.toInt - lo).toNat]? = some o := by rw [← Array.getElem?_toList]; exact ho
      exact lv_tableIn hx hb hd (by omega) (by omega) ho' (xjmp_eq (List.all_eq_true.mp hj2 _ (List.mem_of_getElem? ho))) (h ρ H locs cells slots mls hR hS hc hs hn hl hlo (xok_t hst) hE)
  · exact h.elim

set_option maxHeartbeats 4000000 in
theorem xs_lsw {p : Program} {l : Launch} {e : Env} {R : Room} {s : State} {m : MethodId} {args : Array Value} {below : List Frame} {meth : Method} {c : Code} {Qf : State → Prop} {G : xG} {base : Nat} {f : Nat → Nat → Int32} {N : Nat} {ρ0 : Nat → Nat} {σ0 : xH} {adV : Nat → Nat} {cc : ByteArray} {own : String} {ini : Bool} {nL mc ms d : Nat} {Ts : List Cond} (X : xCtx p R s m args meth c G base f N ρ0 adV cc own ini nL mc ms d Ts) {T : List (List (Option xE))} {rt : Nat} {C : xC} {Q : xQ} (hT : xallT (xwP own ini) T) (hD : xdecT cc 0 T = true) {pc : Nat} {ls : List (Option Value)} {st : List Value} {σ : xH} {b : Nat × Nat} {dv : Int} {ps : Array (Int × Int)} {len : Nat} {v : Int32} {ax : List Nat} (hf : xfetch T pc = some (.lookupswitch dv ps, len, v, ax)) (h : xstp T rt C Q (xKM p l e R s m args below meth c Qf G base f N ρ0 σ0 nL mc ms) pc ls st σ b) : (xKM p l e R s m args below meth c Qf G base f N ρ0 σ0 nL mc ms) pc ls st σ b := by
  obtain ⟨hx, hb, hml, hown, hts, hW, hO, hcs, hfr, hin⟩ := X
  obtain ⟨hd, hwb, hj⟩ := xdecT_at hD hf
  have hw := xallT_at hT hf
  unfold xstp at h
  rw [hf] at h
  dsimp only at h hd
  split at h
  · rename_i x r
    simp only [xwB, Bool.and_eq_true] at hwb
    obtain ⟨hw1, hw2⟩ := hwb
    simp only [xjB, Bool.and_eq_true] at hj
    obtain ⟨hj1, hj2⟩ := hj
    intro ρ H locs cells slots mls hR hS hc hs hn hl hlo hst hE
    obtain ⟨h1, h2⟩ := xsl_spec ps.toList hw2 h
    refine lv_lookup hx hb hd hw1 (off := Op.lookupswitch.offset ps.toList dv x.toInt) rfl (xjmp_eq ?_) (h1 ρ H locs cells slots mls hR hS hc hs hn hl hlo (xok_t hst) hE)
    rcases h2 with h2 | ⟨q, hq, h2⟩
    · rw [h2]; exact hj1
    · rw [h2]; exact List.all_eq_true.mp hj2 _ hq
  · exact h.elim
