theorem xw_max1 : Cond.static Lib.Math.max.name ∈ xW := xW_in (List.mem_of_getElem? (i := 657) (by decide +kernel)) (by decide +kernel)
theorem xw_max2 : Cond.initialized "java/lang/Math" ∈ xW := xW_in (List.mem_of_getElem? (i := 119) (by decide +kernel)) (by decide +kernel)
theorem xw_max3 : Cond.code Lib.Math.max.name Lib.Math.max.code 2 (some .int) ∈ xW := xW_in (List.mem_of_getElem? (i := 658) (by decide +kernel)) (by decide +kernel)
theorem xw_min1 : Cond.static Lib.Math.min.name ∈ xW := xW_in (List.mem_of_getElem? (i := 690) (by decide +kernel)) (by decide +kernel)
theorem xw_min3 : Cond.code Lib.Math.min.name Lib.Math.min.code 2 (some .int) ∈ xW := xW_in (List.mem_of_getElem? (i := 691) (by decide +kernel)) (by decide +kernel)
theorem xw_ac1 : Cond.native arraycopyName ∈ xW := xW_in (List.mem_of_getElem? (i := 495) (by decide +kernel)) (by decide +kernel)
theorem xw_ac2 : Cond.static arraycopyName ∈ xW := xW_in (List.mem_of_getElem? (i := 494) (by decide +kernel)) (by decide +kernel)
theorem xw_ac3 : Cond.initialized "java/lang/System" ∈ xW := xW_in (List.mem_of_getElem? (i := 117) (by decide +kernel)) (by decide +kernel)
theorem xw_oi : Cond.instanceMethod Lib.objectInit ∈ xW := xW_in (List.mem_of_getElem? (i := 130) (by decide +kernel)) (by decide +kernel)
theorem xw_oc : Cond.code Lib.objectInit ⟨#[0xb1]⟩ 1 none ∈ xW := xW_in (List.mem_of_getElem? (i := 131) (by decide +kernel)) (by decide +kernel)
theorem xcat18 {ρ : Nat → Nat} {rest : List Value} (h : rest.length ≤ 9) : ((rest.map (xemb ρ)).map fun v => v.category).sum ≤ 18 := by
  have key : ∀ l : List Value, ((l.map (xemb ρ)).map fun v => v.category).sum ≤ 2 * l.length := fun l => by
    induction l with
    | nil => exact Nat.le_refl _
    | cons a t ih =>
      simp only [List.map_cons, List.sum_cons, List.length_cons]
      have : (xemb ρ a).category ≤ 2 := by cases a <;> simp [xemb, Value.category]
      omega
  have := key rest
  omega
def xPc (G : xG) (base : Nat) (f : Nat → Nat → Int32) (N : Nat) (ρ : Nat → Nat) (adV : Nat → Nat) (σ : xH) (as : List Value) : Array Value → State → Prop := fun a U => a = (as.map (xemb ρ)).toArray ∧ xRel G base f N ρ σ U.heap ∧ xOld G base f N ρ adV U ∧ ∀ u ∈ as, xok σ u
def xQc (G : xG) (base : Nat) (f : Nat → Nat → Int32) (N : Nat) (ρ : Nat → Nat) (σ : xH) (F : xQ) : Array Value → State → Outcome → State → Prop := fun _ st o t => ∃ (r : Option Value) (τ : xH) (ρ' : Nat → Nat), F r τ ∧ o = .returned (r.map (xemb ρ')) ∧ xRel G base f N ρ' τ t.heap ∧ xext ρ σ ρ' τ ∧ (∀ v, r = some v → xok τ v) ∧ va_F (xA base) st t
def xRm (d c : Nat) : Room := { frames := d + 7, cells := (xbud c).1, slots := (xbud c).2, locals := 40 * d + 360 }
def xMet (l : Launch) (G : xG) (base : Nat) (f : Nat → Nat → Int32) (N : Nat) (adV : Nat → Nat) (C : xC) (d : Nat) : Prop := ∀ (c : Nat) (as : List Value) (σ : xH) (F : xQ), C c as σ F → (Nat.blt c 301 || Nat.beq c 302) = true → ∀ ρ, Met l (xyn c) (xws c) (xRm d c) (xPc G base f N ρ adV σ as) (xQc G base f N ρ σ F) (xbud c).1 (xbud c).2 (xA base)
/-! what was there before is there later -/
theorem va_AOA.moved {t : FieldType} {u U : State} (hvm : u.vm.Alike U.vm) (h : va_AOA t u) : va_AOA t U := by
  have h' := h
  unfold va_AOA Cond.before at h'
  simp only [Cond.holds, Cond.value, beq_iff_eq] at h'
  cases hc : u.vm.findClass (FieldType.array t).toString with
  | none => simp [hc] at h'
  | some comp =>
    simp only [hc, Option.bind_some, Option.bind_eq_some_iff, Option.map_eq_some_iff] at h'
    obtain ⟨c, hi, k, hk, hb⟩ := h'
    obtain ⟨k', hk', he⟩ := hvm.2.2 _ _ hk
    have e1 := va_idx_bare U.vm comp
    have e2 := va_idx_bare u.vm comp
    have e3 : U.vm.bare = u.vm.bare := by first | exact hvm.bare_eq | exact hvm.bare_eq.symm
    rw [e3] at e1
    have hi' := e1.symm.trans (e2.trans hi)
    have f1 : U.vm.findClass (FieldType.array t).toString = some comp := by rw [hvm.findClass]; exact hc
    cases hkind : k.kind with
    | array component ty =>
      rw [hkind] at hb
      simp at hb
      have f2 : U.vm.findClass ("[" ++ (FieldType.array t).toString) = some c := by rw [hvm.findClass]; exact hb.2
      have hkind' : k'.kind = .array component (.array t) := by rw [he, hkind, hb.1]
      unfold va_AOA Cond.before Cond.holds
      simp only [Cond.value]
      rw [f1, Option.bind_some]
      refine (congrArg (fun o : Option Nat => (o.bind (fun c => (U.vm.classes[c]?).map fun (k : Class) => match k.kind with | .array _ ty => decide (ty = FieldType.array t) && decide (U.vm.findClass ("[" ++ (FieldType.array t).toString) = some c) | _ => false) == some true)) hi').trans ?_
      simp [hk', hkind', f2]
    | _ => rw [hkind] at hb; simp at hb
theorem xOld_moved {G : xG} {base : Nat} {f : Nat → Nat → Int32} {N : Nat} {ρ : Nat → Nat} {adV : Nat → Nat} {s U : State} {locs : List Loc} (hO : xOld G base f N ρ adV s) (hW : s.WarmedH U.vm) (hS : va_S (xA base) s.heap U.heap locs) : xOld G base f N ρ adV U := by
  obtain ⟨o1, o2, o3, o4, ⟨o5, o5b⟩, ⟨o6, o7⟩, ⟨o8, o9⟩, o10, o11, o12, vF, o13, o14⟩ := hO
  have hal := hW.alike
  refine ⟨Nat.le_trans o1 hS.1, va_K.moved hal o2, va_AOA.moved hal o3, va_AOA.moved hal o4, ⟨?_, o5b⟩, ⟨?_, ?_⟩, ⟨?_, ?_⟩, fun q hq => vk_R.warm hW (o10 q hq), ?_, va_Z.moved hal (o12.kept hS.2.1), vF, va_Z.moved hal (o13.kept hS.2.1), o14⟩
  · exact va_X.moved hal (o5.kept (hS.2.1 _ (Nat.lt_of_lt_of_le o5b o1) (Nat.not_le.mpr o5b)))
  · exact va_Z.moved hal (o6.kept hS.2.1)
  · exact va_T.moved hal (o7.kept hS.2.1)
  · exact va_Z.moved hal (o8.kept hS.2.1)
  · exact va_T.moved hal (o9.kept hS.2.1)
  · exact vk_S.moved hal (o11.kept hS.2.1)
theorem xOld_congr {G : xG} {base : Nat} {f : Nat → Nat → Int32} {N : Nat} {ρ ρ' : Nat → Nat} {adV : Nat → Nat} {s : State} (h : ∀ z, z < 9 → ρ' z = ρ z) (hO : xOld G base f N ρ adV s) : xOld G base f N ρ' adV s := by
  obtain ⟨o1, o2, o3, o4, o5, o6, o8, o10, ⟨o11, o12⟩, o13⟩ := hO
  refine ⟨o1, o2, o3, o4, ?_, ?_, ?_, fun q hq => ?_, ⟨fun i hi => ?_, fun i j hi hj e => ?_⟩, o13⟩
  · rw [h 0 (by decide)]; exact o5
  · rw [h 1 (by decide)]; exact o6
  · rw [h 2 (by decide)]; exact o8
  · rw [h _ (xstrs_lt q hq)]; exact o10 q hq
  · have e := h (3 + i) (by omega)
    have := o11 i hi
    dsimp only at this ⊢
    rw [e]; exact this
  · dsimp only at e
    rw [h (3 + i) (by omega), h (3 + j) (by omega)] at e
    exact o12 i j hi hj e
theorem xPc_blind {G : xG} {base : Nat} {f : Nat → Nat → Int32} {N : Nat} {ρ : Nat → Nat} {adV : Nat → Nat} {σ : xH} {as : List Value} : FrameBlind (xPc G base f N ρ adV σ as) := fun a U g mk h =>
  ⟨h.1, h.2.1, xOld_moved (locs := []) h.2.2.1 (State.WarmedH.refl U) (va_S.rf (H0 := U.heap)), h.2.2.2⟩
theorem xOld_pre {G : xG} {base : Nat} {f : Nat → Nat → Int32} {N : Nat} {ρ0 ρ : Nat → Nat} {σ0 σ : xH} {adV : Nat → Nat} {s U : State} {H : Heap} {locs : List Loc} {as : List Value} (hO : xOld G base f N ρ0 adV s) (hE : xext ρ0 σ0 ρ σ) (hR : xRel G base f N ρ σ H) (hS : va_S (xA base) s.heap H locs) (hok : ∀ u ∈ as, xok σ u) (hU : U.heap = H) (hW : s.WarmedH U.vm) : xPc G base f N ρ adV σ as (as.map (xemb ρ)).toArray U :=
  ⟨rfl, by rw [hU]; exact hR, xOld_congr hE.2 (xOld_moved hO hW (by rw [hU]; exact hS)), hok⟩
theorem xbifP {c : Bool} {a b : Nat × Nat} (ha : a.1 = 0 → a.2 = 0) (hb : b.1 = 0 → b.2 = 0) : (bif c then a else b).1 = 0 → (bif c then a else b).2 = 0 := by
  cases c
  · exact hb
  · exact ha
theorem xbud0 (c : Nat) : (xbud c).1 = 0 → (xbud c).2 = 0 := by
  unfold xbud
  repeat' first
    | exact fun _ => rfl
    | refine xbifP (by decide) ?_
theorem xmaxL_le : ∀ c, c < 304 → xmaxL c ≤ 21 := by decide +kernel
theorem xcok_lt {c : Nat} (h : (Nat.blt c 301 || Nat.beq c 302) = true) : c < 304 := by
  rw [Bool.or_eq_true, Nat.blt_eq] at h
  rcases h with h | h
  · omega
  · have := Nat.eq_of_beq_eq_true h; omega
theorem xcat8 {ρ : Nat → Nat} {rest : List Value} (h : rest.length ≤ 4) : ((rest.map (xemb ρ)).map fun v => v.category).sum ≤ 8 := by
  have key : ∀ l : List Value, ((l.map (xemb ρ)).map fun v => v.category).sum ≤ 2 * l.length := fun l => by
    induction l with
    | nil => exact Nat.le_refl _
    | cons a t ih =>
      simp only [List.map_cons, List.sum_cons, List.length_cons]
      have : (xemb ρ a).category ≤ 2 := by cases a <;> simp [xemb, Value.category]
      omega
  have := key rest
  omega
theorem xcatS {ρ : Nat → Nat} {rest : List Value} (h : xcsum rest ≤ 8) : ((rest.map (xemb ρ)).map fun v => v.category).sum ≤ 8 := by
  have key : ∀ l : List Value, ((l.map (xemb ρ)).map fun v => v.category).sum = xcsum l := fun l => by
    induction l with
    | nil => rfl
    | cons a t ih =>
      simp only [List.map_cons, List.sum_cons, ih]
      cases a <;> simp [xemb, Value.category, xcsum] <;> omega
  rw [key]
  exact h
theorem xpop_spec : ∀ (n : Nat) (acc st : List Value), n ≤ st.length → ∃ xs, (xpopN n acc st).1 = xs ++ acc ∧ st = xs.reverse ++ (xpopN n acc st).2 ∧ xs.length = n
  | 0, acc, st, _ => ⟨[], rfl, rfl, rfl⟩
  | n + 1, acc, [], h => by simp at h
  | n + 1, acc, v :: st, h => by
    obtain ⟨xs, h1, h2, h3⟩ := xpop_spec n (v :: acc) st (by simpa using h)
    refine ⟨xs ++ [v], by rw [xpopN, h1]; simp, ?_, by simp [h3]⟩
    rw [xpopN, List.reverse_append]
    show v :: st = [v] ++ xs.reverse ++ _
    rw [List.append_assoc, ← h2]
    rfl
theorem xcallB {R : Room} {s : State} {args : Array Value} {own : String} {ix c n d : Nat} {Ts : List Cond} (hts : ∀ w ∈ Ts, w.before args s = true) (hW : ∀ w ∈ xW, w ∈ Ts) (hcal : xcal c n) (hml : Cond.methodLink own ix (xyn c) ∈ xW) (hfr : d + 8 ≤ R.frames ∧ 40 * d + 400 ≤ R.locals) : CallB R s args own ix (xyn c) (xcb c) (xmaxL c) (xrty c) (xws c) (xRm d c) (xbud c).1 (xbud c).2 n := by
  obtain ⟨h1, h2, h3, h4⟩ := hcal
  have hm := xmaxL_le c (xcok_lt h4)
  refine callB_of (Ts := Ts) (ws' := xW) n hts (fun w hw => ?_) rfl rfl rfl (hts _ (hW _ h2)) (hts _ (hW _ hml)) h3 ⟨by show d + 7 + 1 ≤ _; omega, by show 8 + (xmaxL c + 11) + (40 * d + 360) ≤ _; omega⟩
  rcases List.mem_cons.mp hw with rfl | hw
  · exact ⟨hW _ h1, xW_good h1⟩
  · exact ⟨hW _ hw, xW_good hw⟩
/-- a call, run by its contract -/
theorem xcall_go {p : Program} {l : Launch} {e : Env} {R : Room} {s : State} {m : MethodId} {args : Array Value} {below : List Frame} {meth : Method} {c : Code} {Qf : State → Prop} {G : xG} {base : Nat} {f : Nat → Nat → Int32} {N : Nat} {ρ0 : Nat → Nat} {σ0 : xH} {adV : Nat → Nat} {nL mc ms d pc c' : Nat} {ls : List (Option Value)} {st as rest : List Value} {σ : xH} {b : Nat × Nat} {C : xC} (hC : xMet l G base f N adV C d) (hcok : (Nat.blt c' 301 || Nat.beq c' 302) = true) (hcs : mc ≤ R.cells ∧ ms ≤ R.slots)
    (h : xcall C (xKM p l e R s m args below meth c Qf G base f N ρ0 σ0 nL mc ms) pc ls c' as rest σ b) (hst2 : (∀ u ∈ st, xok σ u) → (∀ u ∈ as, xok σ u) ∧ ∀ u ∈ rest, xok σ u)
    (row : ∀ (F : xQ) (ρ : Nat → Nat) (H : Heap) (locs : List Loc) (cells slots : Nat) (mls : Array Slot), xRel G base f N ρ σ H → va_S (xA base) s.heap H locs → xext ρ0 σ0 ρ σ → mls.size = nL → (∀ u ∈ as, xok σ u) → (((rest.map (xemb ρ)).map fun v => v.category).sum ≤ 8) → (cells + (xbud c').1 ≤ R.cells ∧ slots + (xbud c').2 ≤ R.slots) → Met l (xyn c') (xws c') (xRm d c') (xPc G base f N ρ adV σ as) (xQc G base f N ρ σ F) (xbud c').1 (xbud c').2 (xA base) →
      ∃ aa, CallRun p l e R s m args below meth c H locs cells slots (xbud c').1 (xbud c').2 (F0 m pc mls (st.map (xemb ρ))) (rest.map (xemb ρ)) (xQc G base f N ρ σ F aa) (xA base)) : (xKM p l e R s m args below meth c Qf G base f N ρ0 σ0 nL mc ms) pc ls st σ b := by
  have main : ∀ (b' : Nat × Nat), (xbud c').1 + b'.1 ≤ b.1 → (xbud c').2 + b'.2 ≤ b.2 → xcsum rest ≤ 8 → C c' as σ (fun r τ => (xKM p l e R s m args below meth c Qf G base f N ρ0 σ0 nL mc ms) (pc + 3) ls (r.toList ++ rest) τ b') → (xKM p l e R s m args below meth c Qf G base f N ρ0 σ0 nL mc ms) pc ls st σ b := by
    intro b' hb1 hb2 hr4 h
    intro ρ H locs cells slots mls hR hS hc hs hn hl hlo hst hE
    obtain ⟨hoa, hor⟩ := hst2 hst
    obtain ⟨aa, hrun⟩ := row _ ρ H locs cells slots mls hR hS hE hl.1 hoa (xcatS hr4) (by have := hcs.1; have := hcs.2; omega) (hC c' as σ _ h hcok ρ)
    intro T hT Xs
    obtain ⟨v, st0, t, T', L, h0, X', hL, e1, hq, stp⟩ := hrun T hT Xs
    obtain ⟨r, τ, ρ', hF, ho, hR', hx, hok, hF1, hF2⟩ := hq
    have hv : v = r.map (xemb ρ') := Outcome.returned.inj ho
    subst hv
    have hS' : va_S (xA base) s.heap t.heap (locs ++ L) := by
      rw [h0] at hF1 hF2
      refine ⟨Nat.le_trans hS.1 hF1, fun q h1 h2 => (hF2 q (Nat.lt_of_lt_of_le h1 hS.1) h2).trans (hS.2.1 q h1 h2), fun q hq => ?_⟩
      rcases List.mem_append.mp hq with hq | hq
      · exact hS.2.2 q hq
      · exact hL q hq
    have k := xKM_at (new := r.toList) (old := rest) hF hR' hS' (cells := cells + (xbud c').1) (slots := slots + (xbud c').2) (by omega) (by omega) hn hl hlo hor (fun u hu => hok u (by cases r with | none => cases hu | some w => rw [List.mem_singleton.mp hu])) hE hx
    obtain ⟨t2, a1, b1⟩ := k T' e1 X'
    refine ⟨t2, stp t2 ?_, b1⟩
    have e9 : (r.map (xemb ρ')).toList ++ rest.map (xemb ρ) = r.toList.map (xemb ρ') ++ rest.map (xemb ρ) := by cases r <;> rfl
    show Steps p.tables e below (T'.setTop { F0 m pc mls (st.map (xemb ρ)) with pc := pc + 3, stack := (r.map (xemb ρ')).toList ++ rest.map (xemb ρ) }) t2
    rw [e9]
    exact a1
  unfold xcall at h
  cases hr : Nat.ble (xcsum rest) 8 with
  | false => rw [hr] at h; exact h.elim
  | true =>
    rw [hr] at h
    have hr4 := Nat.le_of_ble_eq_true hr
    cases h0 : Nat.beq (xbud c').1 0 with
    | true =>
      rw [h0] at h
      have e1 := Nat.eq_of_beq_eq_true h0
      have e2 := xbud0 c' e1
      exact main b (by omega) (by omega) hr4 h
    | false =>
      rw [h0] at h
      cases h1 : Nat.ble (xbud c').1 b.1 && Nat.ble (xbud c').2 b.2 with
      | false => rw [h1] at h; exact h.elim
      | true =>
        rw [h1] at h
        rw [Bool.and_eq_true, Nat.ble_eq, Nat.ble_eq] at h1
        exact main (b.1 - (xbud c').1, b.2 - (xbud c').2) (by dsimp only; omega) (by dsimp only; omega) hr4 h
