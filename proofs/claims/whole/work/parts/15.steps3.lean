theorem xslots_small : ∀ id, id < 204 → xslots id ≤ 5000 := by decide +kernel
theorem xw_arrI : Cond.arrayClass .int ∈ xW := xW_in (List.mem_of_getElem? (i := 201) (by decide +kernel)) (by decide +kernel)
theorem xw_arrJ : Cond.arrayClass .long ∈ xW := xW_in (List.mem_of_getElem? (i := 353) (by decide +kernel)) (by decide +kernel)
theorem x_tst2 (s : State) (g : JFrame) (m : MethodId) (a : Array Value) : (s.calling g m a).heap = s.heap ∧ (s.calling g m a).vm = s.vm := ⟨rfl, rfl⟩
def xup (ρ : Nat → Nat) (id a : Nat) : Nat → Nat := fun i => if i = id then a else ρ i
theorem xnx_spec {A A' : Nat × Nat × Nat} {id : Nat} (h : xnx A id = some A') (hb : 9 ≤ A.1 ∧ A.1 ≤ 112 ∧ 112 ≤ A.2.1 ∧ A.2.1 ≤ 158 ∧ 158 ≤ A.2.2 ∧ A.2.2 ≤ 204) :
    (∀ j, xalive A' j = true ↔ xalive A j = true ∨ j = id) ∧ ¬ xalive A id = true ∧ 9 ≤ id ∧ id < 204 ∧ (9 ≤ A'.1 ∧ A'.1 ≤ 112 ∧ 112 ≤ A'.2.1 ∧ A'.2.1 ≤ 158 ∧ 158 ≤ A'.2.2 ∧ A'.2.2 ≤ 204) := by
  unfold xnx at h
  cases h1 : Nat.beq id A.1 && Nat.blt id 112 with
  | true =>
    rw [h1] at h
    cases h
    rw [Bool.and_eq_true, Nat.blt_eq] at h1
    have e := Nat.eq_of_beq_eq_true h1.1
    refine ⟨fun j => ?_, ?_, ?_, ?_, ?_⟩
    · rw [xalive_iff, xalive_iff]; dsimp only; omega
    · rw [xalive_iff]; omega
    · omega
    · omega
    · dsimp only; omega
  | false =>
    rw [h1] at h
    cases h2 : Nat.beq id A.2.1 && Nat.blt id 158 with
    | true =>
      rw [h2] at h
      cases h
      rw [Bool.and_eq_true, Nat.blt_eq] at h2
      have e := Nat.eq_of_beq_eq_true h2.1
      have h3 : ¬ (id = A.1 ∧ id < 112) := fun q => by
        rw [q.1] at h1
        simp only [Nat.beq_refl, Bool.true_and] at h1
        have := Nat.blt_eq.mpr (q.1 ▸ q.2)
        rw [this] at h1
        cases h1
      refine ⟨fun j => ?_, ?_, ?_, ?_, ?_⟩
      · rw [xalive_iff, xalive_iff]; dsimp only; omega
      · rw [xalive_iff]; omega
      · omega
      · omega
      · dsimp only; omega
    | false =>
      rw [h2] at h
      cases h3 : Nat.beq id A.2.2 && Nat.blt id 204 with
      | true =>
        rw [h3] at h
        cases h
        rw [Bool.and_eq_true, Nat.blt_eq] at h3
        have e := Nat.eq_of_beq_eq_true h3.1
        refine ⟨fun j => ?_, ?_, ?_, ?_, ?_⟩
        · rw [xalive_iff, xalive_iff]; dsimp only; omega
        · rw [xalive_iff]; omega
        · omega
        · omega
        · dsimp only; omega
      | false => rw [h3] at h; cases h
theorem xrow_none {id k : Nat} : xnth none (xrow id) k = none := by
  unfold xrow
  cases (Nat.blt (xkind id) 10 || Nat.beq (xkind id) 22 || Nat.beq (xkind id) 23)
  · rfl
  · show xnth none (List.replicate _ none) k = none
    rw [xnth_list]
    cases h : (List.replicate (xnth (99, 0) xSh id).2 (none : Option Nat))[k]? with
    | none => rfl
    | some v =>
      obtain ⟨_, h2⟩ := List.getElem?_eq_some_iff.mp h
      rw [List.getElem_replicate] at h2
      rw [← h2]
      rfl
theorem xrow_len {id : Nat} (h : xkind id < 10 ∨ xkind id = 22 ∨ xkind id = 23) : (xrow id).length = xslots id := by
  unfold xrow
  have e : (Nat.blt (xkind id) 10 || Nat.beq (xkind id) 22 || Nat.beq (xkind id) 23) = true := by
    rw [Bool.or_eq_true, Bool.or_eq_true, Nat.blt_eq]
    rcases h with h | h | h
    · exact Or.inl (Or.inl h)
    · rw [h]; exact Or.inl (Or.inr rfl)
    · rw [h]; exact Or.inr rfl
  rw [e]
  show (List.replicate _ none).length = _
  rw [List.length_replicate]
  rfl
theorem xemb_congr {σ : xH} {ρ ρ' : Nat → Nat} (h : ∀ a, xalive σ.2.2.2.1 a = true → ρ' a = ρ a) {v : Value} (hv : xok σ v) : xemb ρ' v = xemb ρ v := by
  cases v <;> first | rfl | (show Value.ref (ρ' _) = Value.ref (ρ _); rw [h _ hv])
theorem xmap_congr {σ : xH} {ρ ρ' : Nat → Nat} (h : ∀ a, xalive σ.2.2.2.1 a = true → ρ' a = ρ a) {st : List Value} (hst : ∀ u ∈ st, xok σ u) : st.map (xemb ρ') = st.map (xemb ρ) := List.map_congr_left fun u hu => xemb_congr h (hst u hu)
theorem xasc_congr {σ : xH} {ρ ρ' : Nat → Nat} (h : ∀ a, xalive σ.2.2.2.1 a = true → ρ' a = ρ a) {ls : List (Option Value)} (hlo : ∀ j u, xget ls j = some u → xok σ u) : ∀ q ∈ xasc ρ' 0 ls, q ∈ xasc ρ 0 ls := by
  rintro ⟨j, w⟩ hq
  obtain ⟨u, h1, h2, rfl⟩ := (xasc_mem _ _ _ _).mp hq
  exact (xasc_mem _ _ _ _).mpr ⟨u, h1, h2, xemb_congr h (hlo _ _ h2)⟩
theorem xok_mono {σ τ : xH} (h : ∀ a, xalive σ.2.2.2.1 a = true → xalive τ.2.2.2.1 a = true) {v : Value} (hv : xok σ v) : xok τ v := by
  cases v <;> first | exact hv | exact h _ hv
theorem xext_trans {ρ0 ρ ρ' : Nat → Nat} {σ0 σ τ : xH} (h1 : xext ρ0 σ0 ρ σ) (h2 : xext ρ σ ρ' τ) : xext ρ0 σ0 ρ' τ :=
  ⟨fun id h => ⟨(h2.1 id (h1.1 id h).1).1, ((h2.1 id (h1.1 id h).1).2).trans (h1.1 id h).2⟩, fun z hz => (h2.2 z hz).trans (h1.2 z hz)⟩
theorem xalloc_spec {σ τ : xH} {id : Nat} (h : xalloc σ id = some τ) : ∃ A, xnx σ.2.2.2.1 id = some A ∧ τ = (xwz σ.1 id, xwlz σ.2.1 id, xset σ.2.2.1 id (xrow id), A, σ.2.2.2.2) := by
  unfold xalloc at h
  cases hA : xnx σ.2.2.2.1 id with
  | none => rw [hA] at h; cases h
  | some A => rw [hA] at h; exact ⟨A, rfl, (Option.some.inj h).symm⟩
/-- a new cell -/
theorem xRel_newA {G : xG} {base : Nat} {f : Nat → Nat → Int32} {N : Nat} {ρ : Nat → Nat} {σ τ : xH} {H H1 : Heap} {id : Nat} (hR : xRel G base f N ρ σ H) (ha : xalloc σ id = some τ) (a : Nat) (hb : base ≤ a) (hfr : ∀ j, xnew σ j → ρ j ≠ a) (hold : ∀ j, xnew σ j → H1[ρ j]? = H[ρ j]?)
    (hnew : va_at G.1 vwCl (a, xentry G (xup ρ id a) τ id) H1) : xRel G base f N (xup ρ id a) τ H1 ∧ xext ρ σ (xup ρ id a) τ ∧ xalive τ.2.2.2.1 id = true ∧ 9 ≤ id ∧ (∀ a', xalive σ.2.2.2.1 a' = true → xup ρ id a a' = ρ a') := by
  obtain ⟨A, hA, rfl⟩ := xalloc_spec ha
  obtain ⟨r1, r2, r3, r4, r5, r6, r7⟩ := hR
  obtain ⟨s1, s2, s3, s4, s5⟩ := xnx_spec hA r5
  have hne : ∀ a', xalive σ.2.2.2.1 a' = true → a' ≠ id := fun a' h e => s2 (e ▸ h)
  have hup : ∀ a', xalive σ.2.2.2.1 a' = true → xup ρ id a a' = ρ a' := fun a' h => if_neg (hne a' h)
  have hself : xup ρ id a id = a := if_pos rfl
  have hnw : ∀ j, xnew (xwz σ.1 id, xwlz σ.2.1 id, xset σ.2.2.1 id (xrow id), A, σ.2.2.2.2) j → j ≠ id → xnew σ j := fun j hj e => ⟨hj.1, ((s1 j).mp hj.2).resolve_right e⟩
  have hrow : ∀ j, j ≠ id → xnth [] (xset σ.2.2.1 id (xrow id)) j = xnth [] σ.2.2.1 j := fun j e => by rw [xnth_xset, if_neg (fun q => e q.1)]
  have hrid : xnth [] (xset σ.2.2.1 id (xrow id)) id = xrow id := by rw [xnth_xset, if_pos ⟨rfl, by have := r7.1; omega⟩]
  refine ⟨⟨fun j hj => ?_, fun i j hi hj hij => ?_, fun j hj => ?_, fun j k q hj hq => ?_, s5, ?_, ?_, fun j hj hk => ?_⟩, ⟨fun j hj => ⟨(s1 j).mpr (Or.inl hj), hup j hj⟩, fun z hz => if_neg (by omega)⟩, (s1 id).mpr (Or.inr rfl), s3, hup⟩
  · by_cases e : j = id
    · subst e; rw [hself]; exact hnew
    · have hjo := hnw j hj e
      have hz1 : xwz σ.1 id j = σ.1 j := by funext k; exact if_neg e
      have hz2 : xwlz σ.2.1 id j = σ.2.1 j := by funext k; exact if_neg e
      have hfv : xfval (xup ρ id a) (xwz σ.1 id, xwlz σ.2.1 id, xset σ.2.2.1 id (xrow id), A, σ.2.2.2.2) j = xfval ρ σ j := by
        funext k
        unfold xfval
        dsimp only
        rw [hrow j e, hz1]
        cases hq : xnth none (xnth [] σ.2.2.1 j) k with
        | none => rfl
        | some q =>
          show (bif _ then Value.ref (xup ρ id a q) else _) = (bif _ then Value.ref (ρ q) else _)
          rw [hup q (r4 j k q hjo hq)]
      have hro : xrow_of (xup ρ id a) (xwz σ.1 id, xwlz σ.2.1 id, xset σ.2.2.1 id (xrow id), A, σ.2.2.2.2) j = xrow_of ρ σ j := by
        funext k
        unfold xrow_of
        dsimp only
        rw [hrow j e]
        cases hq : xnth none (xnth [] σ.2.2.1 j) k with
        | none => rfl
        | some q => exact congrArg some (hup q (r4 j k q hjo hq))
      have hen : xentry G (xup ρ id a) (xwz σ.1 id, xwlz σ.2.1 id, xset σ.2.2.1 id (xrow id), A, σ.2.2.2.2) j = xentry G ρ σ j := by
        unfold xentry
        rw [hfv, hro]
        dsimp only
        rw [hz1, hz2]
      rw [hen, hup j hjo.2]
      exact (r1 j hjo).kept (hold j hjo)
  · by_cases e1 : i = id
    · by_cases e2 : j = id
      · rw [e1, e2]
      · rw [e1, hself, hup j (hnw j hj e2).2] at hij
        exact absurd hij.symm (hfr j (hnw j hj e2))
    · by_cases e2 : j = id
      · rw [e2, hself, hup i (hnw i hi e1).2] at hij
        exact absurd hij (hfr i (hnw i hi e1))
      · rw [hup i (hnw i hi e1).2, hup j (hnw j hj e2).2] at hij
        exact r2 i j (hnw i hi e1) (hnw j hj e2) hij
  · by_cases e : j = id
    · rw [e, hself]; exact hb
    · rw [hup j (hnw j hj e).2]; exact r3 j (hnw j hj e)
  · by_cases e : j = id
    · subst e
      have hq' : xnth none (xnth [] (xset σ.2.2.1 j (xrow j)) j) k = some q := hq
      rw [hrid, xrow_none] at hq'
      cases hq'
    · have hq' : xnth none (xnth [] (xset σ.2.2.1 id (xrow id)) j) k = some q := hq
      rw [hrow j e] at hq'
      exact (s1 q).mpr (Or.inl (r4 j k q (hnw j hj e) hq'))
  · refine ⟨?_, ?_, ?_, r6.2.2.2⟩
    · rw [← r6.1]; funext k; exact if_neg (by omega)
    · rw [← r6.2.1]; funext k; exact if_neg (by omega)
    · rw [← r6.2.2.1]; funext k; exact if_neg (by omega)
  · show 204 ≤ (xset σ.2.2.1 id (xrow id)).length
    rw [xset_len]; exact r7.1
  · show (xnth [] (xset σ.2.2.1 id (xrow id)) j).length = _
    by_cases e : j = id
    · subst e; rw [hrid]; exact xrow_len hk
    · rw [hrow j e]; exact r7.2 j (hnw j hj e) hk
/-- a new cell -/
theorem xRel_new {G : xG} {base : Nat} {f : Nat → Nat → Int32} {N : Nat} {ρ : Nat → Nat} {σ τ : xH} {H H1 : Heap} {id : Nat} (hR : xRel G base f N ρ σ H) (ha : xalloc σ id = some τ) (hb : base ≤ H.size) (hold : ∀ q, q < H.size → H1[q]? = H[q]?)
    (hnew : va_at G.1 vwCl (H.size, xentry G (xup ρ id H.size) τ id) H1) : xRel G base f N (xup ρ id H.size) τ H1 ∧ xext ρ σ (xup ρ id H.size) τ ∧ xalive τ.2.2.2.1 id = true ∧ 9 ≤ id ∧ (∀ a, xalive σ.2.2.2.1 a = true → xup ρ id H.size a = ρ a) := by
  refine xRel_newA hR ha H.size hb (fun j hj e => ?_) (fun j hj => hold _ (hR.1 j hj).lt) hnew
  have : ρ j < H.size := (hR.1 j hj).lt
  omega
theorem xtydef : ∀ c, c < 10 → ∀ k, k < 42 → defaultValue (xfty c k) = bif xisref (xfty c k) then Value.null else Value.int 0 := by decide +kernel
theorem xcn42 : ∀ c, c < 10 → (xcn c).2.2 ≤ 42 := by decide +kernel
theorem va_S_new {A : Nat → Prop} {H0 H H1 : Heap} {locs : List Loc} (hS : va_S A H0 H locs) (hz : H.size ≤ H1.size) (hold : ∀ q, q < H.size → H1[q]? = H[q]?) : va_S A H0 H1 locs :=
  ⟨Nat.le_trans hS.1 hz, fun x h1 h2 => (hold x (Nat.lt_of_lt_of_le h1 hS.1)).trans (hS.2.1 x h1 h2), hS.2.2⟩
/-- going on behind something that made cells: the old values are what they were -/
theorem xKM_at {p : Program} {l : Launch} {e : Env} {R : Room} {s : State} {m : MethodId} {args : Array Value} {below : List Frame} {meth : Method} {c : Code} {Qf : State → Prop} {G : xG} {base : Nat} {f : Nat → Nat → Int32} {N : Nat} {ρ0 ρ ρ' : Nat → Nat} {σ0 σ τ : xH} {nL mc ms pc : Nat} {ls : List (Option Value)} {new old : List Value} {b : Nat × Nat} {H1 : Heap} {locs : List Loc} {cells slots : Nat} {mls : Array Slot}
    (h : (xKM p l e R s m args below meth c Qf G base f N ρ0 σ0 nL mc ms) pc ls (new ++ old) τ b) (hR : xRel G base f N ρ' τ H1) (hS : va_S (xA base) s.heap H1 locs) (hc : cells + b.1 ≤ mc) (hs : slots + b.2 ≤ ms) (hn : ls.length = nL) (hl : lv_has mls nL (xasc ρ 0 ls)) (hlo : ∀ j u, xget ls j = some u → xok σ u) (hst : ∀ u ∈ old, xok σ u) (hnw : ∀ u ∈ new, xok τ u) (hE : xext ρ0 σ0 ρ σ) (hx : xext ρ σ ρ' τ) :
    W p l e R s m args below meth c H1 locs cells slots Qf (F0 m pc mls (new.map (xemb ρ') ++ old.map (xemb ρ))) := by
  have hup : ∀ a, xalive σ.2.2.2.1 a = true → ρ' a = ρ a := fun a ha => (hx.1 a ha).2
  have k := h ρ' H1 locs cells slots mls hR hS hc hs hn (lv_has_sub hl (xasc_congr hup hlo)) (fun j u q => xok_mono (fun a ha => (hx.1 a ha).1) (hlo j u q)) (fun u hu => (List.mem_append.mp hu).elim (hnw u) (fun hu => xok_mono (fun a ha => (hx.1 a ha).1) (hst u hu))) (xext_trans hE hx)
  rw [List.map_append, xmap_congr hup hst] at k
  exact k
set_option maxHeartbeats 4000000 in
theorem xs_new {p : Program} {l : Launch} {e : Env} {R : Room} {s : State} {m : MethodId} {args : Array Value} {below : List Frame} {meth : Method} {c : Code} {Qf : State → Prop} {G : xG} {base : Nat} {f : Nat → Nat → Int32} {N : Nat} {ρ0 : Nat → Nat} {σ0 : xH} {adV : Nat → Nat} {cc : ByteArray} {own : String} {ini : Bool} {nL mc ms d : Nat} {Ts : List Cond} (X : xCtx p R s m args meth c G base f N ρ0 adV cc own ini nL mc ms d Ts) {T : List (List (Option xE))} {rt : Nat} {C : xC} {Q : xQ} (hT : xallT (xwP own ini) T) (hD : xdecT cc 0 T = true) {pc : Nat} {ls : List (Option Value)} {st : List Value} {σ : xH} {b : Nat × Nat} {i : Nat} {len : Nat} {v : Int32} {ax : List Nat} (hf : xfetch T pc = some (.new i, len, v, ax)) (h : xstp T rt C Q (xKM p l e R s m args below meth c Qf G base f N ρ0 σ0 nL mc ms) pc ls st σ b) : (xKM p l e R s m args below meth c Qf G base f N ρ0 σ0 nL mc ms) pc ls st σ b := by
  obtain ⟨hx, hb, hml, hown, hts, hW, hO, hcs, hfr, hin⟩ := X
  obtain ⟨hd, hwb, hj⟩ := xdecT_at hD hf
  have hw := xallT_at hT hf
  unfold xstp at h
  rw [hf] at h
  dsimp only at h hd
  have h1 : len = 3 := Nat.eq_of_beq_eq_true hwb
  subst h1
  split at h
  · rename_i c' rel off
    have hw : vwCl[c']? = some (xcn c') ∧ Cond.classLink own i (xcn c').1 ∈ xW ∧ Cond.instantiable (xcn c').1 (xcn c').2.2 ∈ xW ∧ Cond.initialized (xcn c').1 ∈ xW := hw
    obtain ⟨hcl, w1, w2, w3⟩ := hw
    have hc10 := xvw _ hcl
    generalize xid ls rel off = id at h
    cases hi : Nat.beq (xkind id) c' && Nat.blt 0 b.1 && Nat.ble (xnth (99, 0) xSh id).2 b.2 with
    | false => rw [hi] at h; exact h.elim
    | true =>
      rw [hi] at h
      rw [Bool.and_eq_true, Bool.and_eq_true, Nat.blt_eq, Nat.ble_eq] at hi
      obtain ⟨⟨hkd, hb1⟩, hb2⟩ := hi
      have hkd := Nat.eq_of_beq_eq_true hkd
      have hb2 : xslots id ≤ b.2 := hb2
      cases ha : xalloc σ id with
      | none => rw [ha] at h; exact h.elim
      | some τ =>
        rw [ha] at h
        intro ρ H locs cells slots mls hR hS hc hs hn hl hlo hst hE
        obtain ⟨A, hA, hτ⟩ := xalloc_spec ha
        have hid := (xnx_spec hA hR.2.2.2.2.1).2.2.2.1
        have hsl := xslots_ok id hid (by omega)
        rw [hkd] at hsl
        have hKn := hO.2.1.1 c' _ hcl
        refine W.newcK hx hb hown (hts _ (hW _ w1)) (hts _ (hW _ w2)) (hts _ (hW _ w3)) rfl hd (by have := hcs.1; omega) (by have := hcs.2; omega) hKn.2.1 rfl (fun H1 kC hkC e1 z1 o1 => ?_)
        have hob := (u_born (xfty c') hts (fun w hw => hW _ (xuw c' hc10 w hw)) hKn hkC e1 (xtyok c' hc10))
        obtain ⟨hR', hx', hal', h9, -⟩ := xRel_new hR ha (Nat.le_trans hO.1 hS.1) o1 (by
          rw [xentry_o (by omega), hkd]
          refine ⟨_, hcl, hob.to (fun j hj => ?_)⟩
          rw [xtydef c' hc10 j (by have := xcn42 c' hc10; omega)]
          unfold vp_V
          rw [List.getD_eq_getElem?_getD, List.getElem?_map, List.getElem?_range (by rw [hsl]; exact hj)]
          show _ = xfval _ τ id j
          unfold xfval
          rw [hτ, hkd]
          dsimp only
          have hrid : xnth [] (xset σ.2.2.1 id (xrow id)) id = xrow id := by rw [xnth_xset, if_pos ⟨rfl, by have := hR.2.2.2.2.2.2.1; omega⟩]
          rw [hrid, xrow_none]
          show _ = (bif _ then Value.null else Value.int (xwz σ.1 id id j))
          rw [xwz, if_pos rfl])
        have hup : xup ρ id H.size id = H.size := if_pos rfl
        have k := xKM_at (new := [.ref id]) (old := st) h hR' (va_S_new hS (by omega) o1) (cells := cells + 1) (slots := slots + (xcn c').2.2) (by dsimp only; omega) (by dsimp only; show slots + (xcn c').2.2 + (b.2 - xslots id) ≤ ms; omega) hn hl hlo hst (fun u hu => by rw [List.mem_singleton.mp hu]; exact hal') hE hx'
        simp only [List.map_cons, List.map_nil, xemb, hup] at k
        exact k
  · exact h.elim

set_option maxHeartbeats 4000000 in
theorem xs_newarray {p : Program} {l : Launch} {e : Env} {R : Room} {s : State} {m : MethodId} {args : Array Value} {below : List Frame} {meth : Method} {c : Code} {Qf : State → Prop} {G : xG} {base : Nat} {f : Nat → Nat → Int32} {N : Nat} {ρ0 : Nat → Nat} {σ0 : xH} {adV : Nat → Nat} {cc : ByteArray} {own : String} {ini : Bool} {nL mc ms d : Nat} {Ts : List Cond} (X : xCtx p R s m args meth c G base f N ρ0 adV cc own ini nL mc ms d Ts) {T : List (List (Option xE))} {rt : Nat} {C : xC} {Q : xQ} (hT : xallT (xwP own ini) T) (hD : xdecT cc 0 T = true) {pc : Nat} {ls : List (Option Value)} {st : List Value} {σ : xH} {b : Nat × Nat} {t : ClassFile.ArrayType} {len : Nat} {v : Int32} {ax : List Nat} (hf : xfetch T pc = some (.newarray t, len, v, ax)) (h : xstp T rt C Q (xKM p l e R s m args below meth c Qf G base f N ρ0 σ0 nL mc ms) pc ls st σ b) : (xKM p l e R s m args below meth c Qf G base f N ρ0 σ0 nL mc ms) pc ls st σ b := by
  obtain ⟨hx, hb, hml, hown, hts, hW, hO, hcs, hfr, hin⟩ := X
  obtain ⟨hd, hwb, hj⟩ := xdecT_at hD hf
  have hw := xallT_at hT hf
  unfold xstp at h
  rw [hf] at h
  dsimp only at h hd
  have h1 : len = 2 := Nat.eq_of_beq_eq_true hwb
  subst h1
  split at h
  · rename_i c' rel off n r
    have hw : (t = .int ∧ c' = 20) ∨ (t = .long ∧ c' = 21) := hw
    generalize xid ls rel off = id at h
    cases hi : Nat.beq (xkind id) c' && Nat.blt 0 b.1 && Nat.ble (xnth (99, 0) xSh id).2 b.2 && decide (n = Int32.ofNat (xnth (99, 0) xSh id).2) with
    | false => rw [hi] at h; exact h.elim
    | true =>
      rw [hi] at h
      rw [Bool.and_eq_true, Bool.and_eq_true, Bool.and_eq_true, Nat.blt_eq, Nat.ble_eq, decide_eq_true_eq] at hi
      obtain ⟨⟨⟨hkd, hb1⟩, hb2⟩, hnn⟩ := hi
      have hkd := Nat.eq_of_beq_eq_true hkd
      have hb2 : xslots id ≤ b.2 := hb2
      have hnn : n = nI (xslots id) := hnn
      cases ha : xalloc σ id with
      | none => rw [ha] at h; exact h.elim
      | some τ =>
        rw [ha] at h
        intro ρ H locs cells slots mls hR hS hc hs hn hl hlo hst hE
        obtain ⟨A, hA, hτ⟩ := xalloc_spec ha
        have hid := (xnx_spec hA hR.2.2.2.2.1).2.2.2.1
        have h5000 := xslots_small id hid
        have hcl : n.toNatClampNeg = xslots id := by rw [hnn]; exact nI_clamp (by omega)
        have hng : ¬ n < 0 := by rw [hnn]; exact nI_pos (by omega)
        have hup : xup ρ id H.size id = H.size := if_pos rfl
        have hpush : ∀ (cell : Cell) (q : Nat), q < H.size → (H.push cell)[q]? = H[q]? := fun cell q hq => by rw [Array.getElem?_push, if_neg (by omega)]
        have hlast : ∀ (cell : Cell), (H.push cell)[H.size]? = some cell := fun cell => by rw [Array.getElem?_push, if_pos rfl]
        have hfin : ∀ (cell : Cell), va_at G.1 vwCl (H.size, xentry G (xup ρ id H.size) τ id) (H.push cell) → W p l e R s m args below meth c (H.push cell) locs (cells + 1) (slots + xslots id) Qf (F0 m (pc + 2) mls (.ref H.size :: r.map (xemb ρ))) := fun cell hat => by
          obtain ⟨hR', hx', hal', h9, -⟩ := xRel_new hR ha (Nat.le_trans hO.1 hS.1) (hpush cell) hat
          have k := xKM_at (new := [.ref id]) (old := r) h hR' (va_S_new hS (by rw [Array.size_push]; omega) (hpush cell)) (cells := cells + 1) (slots := slots + xslots id) (by dsimp only; omega) (by dsimp only; show slots + xslots id + (b.2 - xslots id) ≤ ms; omega) hn hl hlo (xok_t hst) (fun u hu => by rw [List.mem_singleton.mp hu]; exact hal') hE hx'
          simp only [List.map_cons, List.map_nil, xemb, hup] at k
          exact k
        rcases hw with ⟨rfl, rfl⟩ | ⟨rfl, rfl⟩
        · refine W.newa hx hb (atype := .int) (hts _ (hW _ xw_arrI)) rfl hd rfl hng (by rw [hcl]; show xslots id * 4 ≤ _; omega) (by have := hcs.1; omega) (by rw [hcl]; have := hcs.2; omega) (fun cA kA comp f1 f2 f3 => ?_)
          have e1 : cA = G.2.1 := by
            have := (hO.2.1.2 0 _ rfl).2
            exact Option.some.inj (f1.symm.trans this)
          rw [hcl]
          refine hfin _ ?_
          show va_at G.1 vwCl (H.size, xentry G (xup ρ id H.size) τ id) _
          rw [xentry_20 hkd, e1]
          show (H.push _)[H.size]? = some (vp_cell _ _)
          rw [hlast, hτ]
          refine congrArg some ?_
          show ({ cls := G.2.1, slots := Array.replicate (xslots id) (Value.int 0), vm := .none } : Cell) = arrV G.2.1 (xslots id) (fun j => Value.int (xwz σ.1 id id j))
          rw [arrV_new]
          refine congrArg (arrV _ _) (funext fun j => ?_)
          show (Value.int 0) = Value.int (xwz σ.1 id id j)
          rw [xwz, if_pos rfl]
        · refine W.newa hx hb (atype := .long) (hts _ (hW _ xw_arrJ)) rfl hd rfl hng (by rw [hcl]; show xslots id * 8 ≤ _; omega) (by have := hcs.1; omega) (by rw [hcl]; have := hcs.2; omega) (fun cA kA comp f1 f2 f3 => ?_)
          have e1 : cA = G.2.2.1 := by
            have := (hO.2.1.2 1 _ rfl).2
            exact Option.some.inj (f1.symm.trans this)
          rw [hcl]
          refine hfin _ ?_
          show va_at G.1 vwCl (H.size, xentry G (xup ρ id H.size) τ id) _
          rw [xentry_21 hkd, e1]
          show (H.push _)[H.size]? = some (vp_cell _ _)
          rw [hlast, hτ]
          refine congrArg some ?_
          show ({ cls := G.2.2.1, slots := Array.replicate (xslots id) (Value.long 0), vm := .none } : Cell) = arrV G.2.2.1 (xslots id) (fun j => Value.long (xwlz σ.2.1 id id j))
          rw [arrV_new]
          refine congrArg (arrV _ _) (funext fun j => ?_)
          show (Value.long 0) = Value.long (xwlz σ.2.1 id id j)
          rw [xwlz, if_pos rfl]
  · exact h.elim

set_option maxHeartbeats 4000000 in
theorem xs_anewarray {p : Program} {l : Launch} {e : Env} {R : Room} {s : State} {m : MethodId} {args : Array Value} {below : List Frame} {meth : Method} {c : Code} {Qf : State → Prop} {G : xG} {base : Nat} {f : Nat → Nat → Int32} {N : Nat} {ρ0 : Nat → Nat} {σ0 : xH} {adV : Nat → Nat} {cc : ByteArray} {own : String} {ini : Bool} {nL mc ms d : Nat} {Ts : List Cond} (X : xCtx p R s m args meth c G base f N ρ0 adV cc own ini nL mc ms d Ts) {T : List (List (Option xE))} {rt : Nat} {C : xC} {Q : xQ} (hT : xallT (xwP own ini) T) (hD : xdecT cc 0 T = true) {pc : Nat} {ls : List (Option Value)} {st : List Value} {σ : xH} {b : Nat × Nat} {i : Nat} {len : Nat} {v : Int32} {ax : List Nat} (hf : xfetch T pc = some (.anewarray i, len, v, ax)) (h : xstp T rt C Q (xKM p l e R s m args below meth c Qf G base f N ρ0 σ0 nL mc ms) pc ls st σ b) : (xKM p l e R s m args below meth c Qf G base f N ρ0 σ0 nL mc ms) pc ls st σ b := by
  obtain ⟨hx, hb, hml, hown, hts, hW, hO, hcs, hfr, hin⟩ := X
  obtain ⟨hd, hwb, hj⟩ := xdecT_at hD hf
  have hw := xallT_at hT hf
  unfold xstp at h
  rw [hf] at h
  dsimp only at h hd
  have h1 : len = 3 := Nat.eq_of_beq_eq_true hwb
  subst h1
  split at h
  · rename_i rel off n r
    have hw : Cond.classLink own i "[I" ∈ xW := hw
    generalize xid ls rel off = id at h
    cases hi : Nat.beq (xkind id) 22 && Nat.blt 0 b.1 && Nat.ble (xnth (99, 0) xSh id).2 b.2 && decide (n = Int32.ofNat (xnth (99, 0) xSh id).2) with
    | false => rw [hi] at h; exact h.elim
    | true =>
      rw [hi] at h
      rw [Bool.and_eq_true, Bool.and_eq_true, Bool.and_eq_true, Nat.blt_eq, Nat.ble_eq, decide_eq_true_eq] at hi
      obtain ⟨⟨⟨hkd, hb1⟩, hb2⟩, hnn⟩ := hi
      have hkd := Nat.eq_of_beq_eq_true hkd
      have hb2 : xslots id ≤ b.2 := hb2
      have hnn : n = nI (xslots id) := hnn
      cases ha : xalloc σ id with
      | none => rw [ha] at h; exact h.elim
      | some τ =>
        rw [ha] at h
        intro ρ H locs cells slots mls hR hS hc hs hn hl hlo hst hE
        obtain ⟨A, hA, hτ⟩ := xalloc_spec ha
        have hid := (xnx_spec hA hR.2.2.2.2.1).2.2.2.1
        have h5000 := xslots_small id hid
        have hcl : n.toNatClampNeg = xslots id := by rw [hnn]; exact nI_clamp (by omega)
        have hng : ¬ n < 0 := by rw [hnn]; exact nI_pos (by omega)
        have hup : xup ρ id H.size id = H.size := if_pos rfl
        have hpush : ∀ (cell : Cell) (q : Nat), q < H.size → (H.push cell)[q]? = H[q]? := fun cell q hq => by rw [Array.getElem?_push, if_neg (by omega)]
        have hlast : ∀ (cell : Cell), (H.push cell)[H.size]? = some cell := fun cell => by rw [Array.getElem?_push, if_pos rfl]
        have hfin : ∀ (cell : Cell), va_at G.1 vwCl (H.size, xentry G (xup ρ id H.size) τ id) (H.push cell) → W p l e R s m args below meth c (H.push cell) locs (cells + 1) (slots + xslots id) Qf (F0 m (pc + 3) mls (.ref H.size :: r.map (xemb ρ))) := fun cell hat => by
          obtain ⟨hR', hx', hal', h9, -⟩ := xRel_new hR ha (Nat.le_trans hO.1 hS.1) (hpush cell) hat
          have k := xKM_at (new := [.ref id]) (old := r) h hR' (va_S_new hS (by rw [Array.size_push]; omega) (hpush cell)) (cells := cells + 1) (slots := slots + xslots id) (by dsimp only; omega) (by dsimp only; show slots + xslots id + (b.2 - xslots id) ≤ ms; omega) hn hl hlo (xok_t hst) (fun u hu => by rw [List.mem_singleton.mp hu]; exact hal') hE hx'
          simp only [List.map_cons, List.map_nil, xemb, hup] at k
          exact k
        refine W.anewA (t := .int) hx hb hown (hts _ (hW _ hw)) (va_AOA.use hO.2.2.1) rfl hd rfl hng (by rw [hcl]; omega) (by have := hcs.1; omega) (by rw [hcl]; have := hcs.2; omega) (fun cA kA comp f1 f2 f3 f4 => ?_)
        have e1 : cA = G.2.2.2.1 := by
          have := (hO.2.1.2 2 _ rfl).2
          exact Option.some.inj (f1.symm.trans this)
        rw [hcl]
        refine hfin _ ?_
        rw [xentry_22 hkd, e1]
        show (H.push _)[H.size]? = some (vp_cell _ _)
        rw [hlast, hτ, vp_cell_q]
        refine congrArg some ?_
        show ({ cls := G.2.2.2.1, slots := Array.replicate (xslots id) .null, vm := .none } : Cell) = _
        rw [arrV_new]
        refine congrArg (arrV _ _) (funext fun j => ?_)
        unfold xrow_of
        dsimp only
        have hrid : xnth [] (xset σ.2.2.1 id (xrow id)) id = xrow id := by rw [xnth_xset, if_pos ⟨rfl, by have := hR.2.2.2.2.2.2.1; omega⟩]
        rw [hrid, xrow_none]
        rfl
  · exact h.elim

set_option maxHeartbeats 4000000 in
theorem xs_aastore {p : Program} {l : Launch} {e : Env} {R : Room} {s : State} {m : MethodId} {args : Array Value} {below : List Frame} {meth : Method} {c : Code} {Qf : State → Prop} {G : xG} {base : Nat} {f : Nat → Nat → Int32} {N : Nat} {ρ0 : Nat → Nat} {σ0 : xH} {adV : Nat → Nat} {cc : ByteArray} {own : String} {ini : Bool} {nL mc ms d : Nat} {Ts : List Cond} (X : xCtx p R s m args meth c G base f N ρ0 adV cc own ini nL mc ms d Ts) {T : List (List (Option xE))} {rt : Nat} {C : xC} {Q : xQ} (hT : xallT (xwP own ini) T) (hD : xdecT cc 0 T = true) {pc : Nat} {ls : List (Option Value)} {st : List Value} {σ : xH} {b : Nat × Nat}  {len : Nat} {v : Int32} {ax : List Nat} (hf : xfetch T pc = some (.aastore, len, v, ax)) (h : xstp T rt C Q (xKM p l e R s m args below meth c Qf G base f N ρ0 σ0 nL mc ms) pc ls st σ b) : (xKM p l e R s m args below meth c Qf G base f N ρ0 σ0 nL mc ms) pc ls st σ b := by
  obtain ⟨hx, hb, hml, hown, hts, hW, hO, hcs, hfr, hin⟩ := X
  obtain ⟨hd, hwb, hj⟩ := xdecT_at hD hf
  have hw := xallT_at hT hf
  unfold xstp at h
  rw [hf] at h
  dsimp only at h hd
  have h1 : len = 1 := Nat.eq_of_beq_eq_true hwb
  subst h1
  split at h
  · rename_i x i o r
    cases hi : xis σ o 22 && xis σ x 20 && Nat.blt 8 o with
    | false => rw [hi] at h; exact h.elim
    | true =>
      rw [hi] at h
      rw [Bool.and_eq_true, Bool.and_eq_true] at hi
      obtain ⟨hal, hkd⟩ := xis_iff hi.1.1
      obtain ⟨hax, hkx⟩ := xis_iff hi.1.2
      have h9 : 9 ≤ o := Nat.le_of_ble_eq_true hi.2
      have hx9 : 9 ≤ x := xlow_kind hkx (by omega)
      simp only [cond_true] at h
      split at h
      · rename_i hin'
        intro ρ H locs cells slots mls hR hS hc hs hn hl hlo hst hE
        have hin2 : xin i (xslots o) := by rw [← xlen_eq (N := σ.2.2.2.2) (o := o) (Nat.lt_of_lt_of_le (by decide) h9)]; exact hin'
        have hlt : i.toNatClampNeg < xslots o := Nat.not_le.mp fun q => hin2 (Or.inr q)
        have hi0 : ¬ i < 0 := fun q => hin2 (Or.inl q)
        have hrl := hR.2.2.2.2.2.2.2 o ⟨h9, hal⟩ (by omega)
        have ho204 : o < σ.2.2.1.length := Nat.lt_of_lt_of_le (xalive_204 hR hal) hR.2.2.2.2.2.2.1
        have hcell : H[ρ o]? = some (arrV G.2.2.2.1 (xslots o) (fun j => va_rf (xrow_of ρ σ o j))) := by
          have := hR.1 o ⟨h9, hal⟩
          rw [xentry_22 hkd] at this
          exact this
        have hcx : H[ρ x]? = some (arrV G.2.1 (xslots x) (fun j => .int (σ.1 x j))) := by
          have := hR.1 x ⟨hx9, hax⟩
          rw [xentry_20 hkx] at this
          exact this
        obtain ⟨comp1, cA1, kA, hcomp1, hkA, hkindA, hnameA⟩ := Cond.arrayOver_specA (va_AOA.use (A := args) hO.2.2.1)
        have eA : cA1 = G.2.2.2.1 := Option.some.inj (hnameA.symm.trans (hO.2.1.2 2 _ rfl).2)
        have eI : comp1 = G.2.1 := Option.some.inj (hcomp1.symm.trans (hO.2.1.2 0 _ rfl).2)
        subst eA; subst eI
        obtain ⟨kI, hkI, -⟩ := Vm.findClass_spec hcomp1
        refine W.aast hx hb hcell (fun q q' => by cases q') (fun q' => by cases q') hkA hkindA rfl hkI ⟨hi0, by rw [arrV_size]; exact hlt⟩ hcx (fun q q' => by cases q') hkI (va_asg _ _) rfl rfl hd (fun H1 e1 e2 e3 => ?_)
        have hne : ∀ j, xnew σ j → j ≠ o → ρ j ≠ ρ o := fun j hj e q => e (hR.2.1 _ _ hj ⟨h9, hal⟩ q)
        refine h ρ H1 _ cells slots mls (xRel_R hR hax ⟨?_, fun j hj e => (hR.1 j hj).kept (e3 _ (hne j hj e))⟩) (hS.put e2 e3 (hR.2.2.1 o ⟨h9, hal⟩)) hc hs hn hl hlo (xok_t (xok_t (xok_t hst))) hE
        rw [xentry_22 hkd]
        show H1[ρ o]? = some (vp_cell _ _)
        rw [e1, vp_cell_q, arrV_store]
        refine congrArg (fun z => some (arrV _ _ z)) (funext fun j => ?_)
        have hr5 : xnth [] (xwr σ.2.2.1 o i.toNatClampNeg (some x)) o = xset (xnth [] σ.2.2.1 o) i.toNatClampNeg (some x) := by rw [xwr, xnth_xset, if_pos ⟨rfl, ho204⟩]
        unfold xrow_of updV
        dsimp only
        rw [hr5, xnth_xset]
        by_cases ej : j = i.toNatClampNeg
        · rw [if_pos ej, if_pos ⟨ej, by rw [hrl]; exact hlt⟩]
          rfl
        · rw [if_neg ej, if_neg (fun z => ej z.1)]
      · exact h.elim
  · exact h.elim
