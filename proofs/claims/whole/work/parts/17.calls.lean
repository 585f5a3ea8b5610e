theorem xw_max1 : Cond.static Lib.Math.max.name ∈ xW := xW_in (List.mem_of_getElem? (i := 656) (by decide +kernel)) (by decide +kernel)
theorem xw_max2 : Cond.initialized "java/lang/Math" ∈ xW := xW_in (List.mem_of_getElem? (i := 118) (by decide +kernel)) (by decide +kernel)
theorem xw_max3 : Cond.code Lib.Math.max.name Lib.Math.max.code 2 (some .int) ∈ xW := xW_in (List.mem_of_getElem? (i := 657) (by decide +kernel)) (by decide +kernel)
theorem xw_min1 : Cond.static Lib.Math.min.name ∈ xW := xW_in (List.mem_of_getElem? (i := 689) (by decide +kernel)) (by decide +kernel)
theorem xw_min3 : Cond.code Lib.Math.min.name Lib.Math.min.code 2 (some .int) ∈ xW := xW_in (List.mem_of_getElem? (i := 690) (by decide +kernel)) (by decide +kernel)
theorem xw_ac1 : Cond.native arraycopyName ∈ xW := xW_in (List.mem_of_getElem? (i := 494) (by decide +kernel)) (by decide +kernel)
theorem xw_ac2 : Cond.static arraycopyName ∈ xW := xW_in (List.mem_of_getElem? (i := 493) (by decide +kernel)) (by decide +kernel)
theorem xw_ac3 : Cond.initialized "java/lang/System" ∈ xW := xW_in (List.mem_of_getElem? (i := 116) (by decide +kernel)) (by decide +kernel)
theorem xw_oi : Cond.instanceMethod Lib.objectInit ∈ xW := xW_in (List.mem_of_getElem? (i := 129) (by decide +kernel)) (by decide +kernel)
theorem xw_oc : Cond.code Lib.objectInit ⟨#[0xb1]⟩ 1 none ∈ xW := xW_in (List.mem_of_getElem? (i := 130) (by decide +kernel)) (by decide +kernel)
theorem xcat18 {ρ : Nat → Nat} {rest : List Value} (h : rest.length ≤ 9) : ((rest.map (xemb ρ)).map fun v => v.category).sum ≤ 18 := by
  have key : ∀ l : List Value, ((l.map (xemb ρ)).map fun v => v.category).sum ≤ 2 * l.length := fun l => by
    induction l with
    | nil => exact Nat.le_refl _
    | cons a t ih =>
      simp only [List.map_cons, List.sum_cons, List.length_cons]
      have : (xemb ρ a).category ≤ 2 := by cases a <;> simp [xemb, Value.category]
      omega
  have := key rest
  omega
def xPc (G : xG) (base : Nat) (f : Nat → Nat → Int32) (N : Nat) (ρ : Nat → Nat) (adV : Nat → Nat) (σ : xH) (as : List Value) : Array Value → State → Prop := fun a U => a = (as.map (xemb ρ)).toArray ∧ xRel G base f N ρ σ U.heap ∧ xOld G base f N ρ adV U ∧ ∀ u ∈ as, xok σ u
def xQc (G : xG) (base : Nat) (f : Nat → Nat → Int32) (N : Nat) (ρ : Nat → Nat) (σ : xH) (F : xQ) : Array Value → State → Outcome → State → Prop := fun _ st o t => ∃ (r : Option Value) (τ : xH) (ρ' : Nat → Nat), F r τ ∧ o = .returned (r.map (xemb ρ')) ∧ xRel G base f N ρ' τ t.heap ∧ xext ρ σ ρ' τ ∧ (∀ v, r = some v → xok τ v) ∧ va_F (xA base) st t
def xRm (d c : Nat) : Room := { frames := d + 7, cells := (xbud c).1, slots := (xbud c).2, locals := 40 * d + 360 }
def xMet (l : Launch) (G : xG) (base : Nat) (f : Nat → Nat → Int32) (N : Nat) (adV : Nat → Nat) (C : xC) (d : Nat) : Prop := ∀ (c : Nat) (as : List Value) (σ : xH) (F : xQ), C c as σ F → (Nat.blt c 300 || Nat.beq c 302) = true → ∀ ρ, Met l (xyn c) (xws c) (xRm d c) (xPc G base f N ρ adV σ as) (xQc G base f N ρ σ F) (xbud c).1 (xbud c).2 (xA base)
/-! what was there before is there later -/
theorem va_AOA.moved {t : FieldType} {u U : State} (hvm : u.vm.Alike U.vm) (h : va_AOA t u) : va_AOA t U := by
  have h' := h
  unfold va_AOA Cond.before at h'
  simp only [Cond.holds, Cond.value, beq_iff_eq] at h'
  cases hc : u.vm.findClass (FieldType.array t).toString with
  | none => simp [hc] at h'
  | some comp =>
    simp only [hc, Option.bind_some, Option.bind_eq_some_iff, Option.map_eq_some_iff] at h'
    obtain ⟨c, hi, k, hk, hb⟩ := h'
    obtain ⟨k', hk', he⟩ := hvm.2.2 _ _ hk
    have e1 := va_idx_bare U.vm comp
    have e2 := va_idx_bare u.vm comp
    have e3 : U.vm.bare = u.vm.bare := by first | exact hvm.bare_eq | exact hvm.bare_eq.symm
    rw [e3] at e1
    have hi' := e1.symm.trans (e2.trans hi)
    have f1 : U.vm.findClass (FieldType.array t).toString = some comp := by rw [hvm.findClass]; exact hc
    cases hkind : k.kind with
    | array component ty =>
      rw [hkind] at hb
      simp at hb
      have f2 : U.vm.findClass ("[" ++ (FieldType.array t).toString) = some c := by rw [hvm.findClass]; exact hb.2
      have hkind' : k'.kind = .array component (.array t) := by rw [he, hkind, hb.1]
      unfold va_AOA Cond.before Cond.holds
      simp only [Cond.value]
      rw [f1, Option.bind_some]
      refine (congrArg (fun o : Option Nat => (o.bind (fun c => (U.vm.classes[c]?).map fun (k : Class) => match k.kind with | .array _ ty => decide (ty = FieldType.array t) && decide (U.vm.findClass ("[" ++ (FieldType.array t).toString) = some c) | _ => false) == some true)) hi').trans ?_
      simp [hk', hkind', f2]
    | _ => rw [hkind] at hb; simp at hb
theorem xOld_moved {G : xG} {base : Nat} {f : Nat → Nat → Int32} {N : Nat} {ρ : Nat → Nat} {adV : Nat → Nat} {s U : State} {locs : List Loc} (hO : xOld G base f N ρ adV s) (hW : s.WarmedH U.vm) (hS : va_S (xA base) s.heap U.heap locs) : xOld G base f N ρ adV U := by
  obtain ⟨o1, o2, o3, o4, ⟨o5, o5b⟩, ⟨o6, o7⟩, ⟨o8, o9⟩, o10, o11⟩ := hO
  have hal := hW.alike
  refine ⟨Nat.le_trans o1 hS.1, va_K.moved hal o2, va_AOA.moved hal o3, va_AOA.moved hal o4, ⟨?_, o5b⟩, ⟨?_, ?_⟩, ⟨?_, ?_⟩, fun q hq => vk_R.warm hW (o10 q hq), ?_⟩
  · exact va_X.moved hal (o5.kept (hS.2.1 _ (Nat.lt_of_lt_of_le o5b o1) (Nat.not_le.mpr o5b)))
  · exact va_Z.moved hal (o6.kept hS.2.1)
  · exact va_T.moved hal (o7.kept hS.2.1)
  · exact va_Z.moved hal (o8.kept hS.2.1)
  · exact va_T.moved hal (o9.kept hS.2.1)
  · exact vk_S.moved hal (o11.kept hS.2.1)
theorem xOld_congr {G : xG} {base : Nat} {f : Nat → Nat → Int32} {N : Nat} {ρ ρ' : Nat → Nat} {adV : Nat → Nat} {s : State} (h : ∀ z, z < 9 → ρ' z = ρ z) (hO : xOld G base f N ρ adV s) : xOld G base f N ρ' adV s := by
  obtain ⟨o1, o2, o3, o4, o5, o6, o8, o10, o11, o12⟩ := hO
  refine ⟨o1, o2, o3, o4, ?_, ?_, ?_, fun q hq => ?_, fun i hi => ?_, fun i j hi hj e => ?_⟩
  · rw [h 0 (by decide)]; exact o5
  · rw [h 1 (by decide)]; exact o6
  · rw [h 2 (by decide)]; exact o8
  · rw [h _ (xstrs_lt q hq)]; exact o10 q hq
  · have e := h (3 + i) (by omega)
    have := o11 i hi
    dsimp only at this ⊢
    rw [e]; exact this
  · dsimp only at e
    rw [h (3 + i) (by omega), h (3 + j) (by omega)] at e
    exact o12 i j hi hj e
theorem xPc_blind {G : xG} {base : Nat} {f : Nat → Nat → Int32} {N : Nat} {ρ : Nat → Nat} {adV : Nat → Nat} {σ : xH} {as : List Value} : FrameBlind (xPc G base f N ρ adV σ as) := fun a U g mk h =>
  ⟨h.1, h.2.1, xOld_moved (locs := []) h.2.2.1 (State.WarmedH.refl U) (va_S.rf (H0 := U.heap)), h.2.2.2⟩
theorem xOld_pre {G : xG} {base : Nat} {f : Nat → Nat → Int32} {N : Nat} {ρ0 ρ : Nat → Nat} {σ0 σ : xH} {adV : Nat → Nat} {s U : State} {H : Heap} {locs : List Loc} {as : List Value} (hO : xOld G base f N ρ0 adV s) (hE : xext ρ0 σ0 ρ σ) (hR : xRel G base f N ρ σ H) (hS : va_S (xA base) s.heap H locs) (hok : ∀ u ∈ as, xok σ u) (hU : U.heap = H) (hW : s.WarmedH U.vm) : xPc G base f N ρ adV σ as (as.map (xemb ρ)).toArray U :=
  ⟨rfl, by rw [hU]; exact hR, xOld_congr hE.2 (xOld_moved hO hW (by rw [hU]; exact hS)), hok⟩
theorem xbifP {c : Bool} {a b : Nat × Nat} (ha : a.1 = 0 → a.2 = 0) (hb : b.1 = 0 → b.2 = 0) : (bif c then a else b).1 = 0 → (bif c then a else b).2 = 0 := by
  cases c
  · exact hb
  · exact ha
theorem xbud0 (c : Nat) : (xbud c).1 = 0 → (xbud c).2 = 0 := by
  unfold xbud
  repeat' first
    | exact fun _ => rfl
    | refine xbifP (by decide) ?_
theorem xmaxL_le : ∀ c, c < 304 → xmaxL c ≤ 21 := by decide +kernel
theorem xcok_lt {c : Nat} (h : (Nat.blt c 300 || Nat.beq c 302) = true) : c < 304 := by
  rw [Bool.or_eq_true, Nat.blt_eq] at h
  rcases h with h | h
  · omega
  · have := Nat.eq_of_beq_eq_true h; omega
theorem xcat8 {ρ : Nat → Nat} {rest : List Value} (h : rest.length ≤ 4) : ((rest.map (xemb ρ)).map fun v => v.category).sum ≤ 8 := by
  have key : ∀ l : List Value, ((l.map (xemb ρ)).map fun v => v.category).sum ≤ 2 * l.length := fun l => by
    induction l with
    | nil => exact Nat.le_refl _
    | cons a t ih =>
      simp only [List.map_cons, List.sum_cons, List.length_cons]
      have : (xemb ρ a).category ≤ 2 := by cases a <;> simp [xemb, Value.category]
      omega
  have := key rest
  omega
theorem xpop_spec : ∀ (n : Nat) (acc st : List Value), n ≤ st.length → ∃ xs, (xpopN n acc st).1 = xs ++ acc ∧ st = xs.reverse ++ (xpopN n acc st).2 ∧ xs.length = n
  | 0, acc, st, _ => ⟨[], rfl, rfl, rfl⟩
  | n + 1, acc, [], h => by simp at h
  | n + 1, acc, v :: st, h => by
    obtain ⟨xs, h1, h2, h3⟩ := xpop_spec n (v :: acc) st (by simpa using h)
    refine ⟨xs ++ [v], by rw [xpopN, h1]; simp, ?_, by simp [h3]⟩
    rw [xpopN, List.reverse_append]
    show v :: st = [v] ++ xs.reverse ++ _
    rw [List.append_assoc, ← h2]
    rfl
theorem xcallB {R : Room} {s : State} {args : Array Value} {own : String} {ix c n d : Nat} {Ts : List Cond} (hts : ∀ w ∈ Ts, w.before args s = true) (hW : ∀ w ∈ xW, w ∈ Ts) (hcal : xcal c n) (hml : Cond.methodLink own ix (xyn c) ∈ xW) (hfr : d + 8 ≤ R.frames ∧ 40 * d + 400 ≤ R.locals) : CallB R s args own ix (xyn c) (xcb c) (xmaxL c) (xrty c) (xws c) (xRm d c) (xbud c).1 (xbud c).2 n := by
  obtain ⟨h1, h2, h3, h4⟩ := hcal
  have hm := xmaxL_le c (xcok_lt h4)
  refine callB_of (Ts := Ts) (ws' := xW) n hts (fun w hw => ?_) rfl rfl rfl (hts _ (hW _ h2)) (hts _ (hW _ hml)) h3 ⟨by show d + 7 + 1 ≤ _; omega, by show 8 + (xmaxL c + 11) + (40 * d + 360) ≤ _; omega⟩
  rcases List.mem_cons.mp hw with rfl | hw
  · exact ⟨hW _ h1, xW_good h1⟩
  · exact ⟨hW _ hw, xW_good hw⟩
/-- a call, run by its contract -/
theorem xcall_go {p : Program} {l : Launch} {e : Env} {R : Room} {s : State} {m : MethodId} {args : Array Value} {below : List Frame} {meth : Method} {c : Code} {Qf : State → Prop} {G : xG} {base : Nat} {f : Nat → Nat → Int32} {N : Nat} {ρ0 : Nat → Nat} {σ0 : xH} {adV : Nat → Nat} {nL mc ms d pc c' : Nat} {ls : List (Option Value)} {st as rest : List Value} {σ : xH} {b : Nat × Nat} {C : xC} (hC : xMet l G base f N adV C d) (hcok : (Nat.blt c' 300 || Nat.beq c' 302) = true) (hcs : mc ≤ R.cells ∧ ms ≤ R.slots)
    (h : xcall C (xKM p l e R s m args below meth c Qf G base f N ρ0 σ0 nL mc ms) pc ls c' as rest σ b) (hst2 : (∀ u ∈ st, xok σ u) → (∀ u ∈ as, xok σ u) ∧ ∀ u ∈ rest, xok σ u)
    (row : ∀ (F : xQ) (ρ : Nat → Nat) (H : Heap) (locs : List Loc) (cells slots : Nat) (mls : Array Slot), xRel G base f N ρ σ H → va_S (xA base) s.heap H locs → xext ρ0 σ0 ρ σ → mls.size = nL → (∀ u ∈ as, xok σ u) → (((rest.map (xemb ρ)).map fun v => v.category).sum ≤ 8) → (cells + (xbud c').1 ≤ R.cells ∧ slots + (xbud c').2 ≤ R.slots) → Met l (xyn c') (xws c') (xRm d c') (xPc G base f N ρ adV σ as) (xQc G base f N ρ σ F) (xbud c').1 (xbud c').2 (xA base) →
      ∃ aa, CallRun p l e R s m args below meth c H locs cells slots (xbud c').1 (xbud c').2 (F0 m pc mls (st.map (xemb ρ))) (rest.map (xemb ρ)) (xQc G base f N ρ σ F aa) (xA base)) : (xKM p l e R s m args below meth c Qf G base f N ρ0 σ0 nL mc ms) pc ls st σ b := by
  have main : ∀ (b' : Nat × Nat), (xbud c').1 + b'.1 ≤ b.1 → (xbud c').2 + b'.2 ≤ b.2 → rest.length ≤ 4 → C c' as σ (fun r τ => (xKM p l e R s m args below meth c Qf G base f N ρ0 σ0 nL mc ms) (pc + 3) ls (r.toList ++ rest) τ b') → (xKM p l e R s m args below meth c Qf G base f N ρ0 σ0 nL mc ms) pc ls st σ b := by
    intro b' hb1 hb2 hr4 h
    intro ρ H locs cells slots mls hR hS hc hs hn hl hlo hst hE
    obtain ⟨hoa, hor⟩ := hst2 hst
    obtain ⟨aa, hrun⟩ := row _ ρ H locs cells slots mls hR hS hE hl.1 hoa (xcat8 hr4) (by have := hcs.1; have := hcs.2; omega) (hC c' as σ _ h hcok ρ)
    intro T hT Xs
    obtain ⟨v, st0, t, T', L, h0, X', hL, e1, hq, stp⟩ := hrun T hT Xs
    obtain ⟨r, τ, ρ', hF, ho, hR', hx, hok, hF1, hF2⟩ := hq
    have hv : v = r.map (xemb ρ') := Outcome.returned.inj ho
    subst hv
    have hS' : va_S (xA base) s.heap t.heap (locs ++ L) := by
      rw [h0] at hF1 hF2
      refine ⟨Nat.le_trans hS.1 hF1, fun q h1 h2 => (hF2 q (Nat.lt_of_lt_of_le h1 hS.1) h2).trans (hS.2.1 q h1 h2), fun q hq => ?_⟩
      rcases List.mem_append.mp hq with hq | hq
      · exact hS.2.2 q hq
      · exact hL q hq
    have k := xKM_at (new := r.toList) (old := rest) hF hR' hS' (cells := cells + (xbud c').1) (slots := slots + (xbud c').2) (by omega) (by omega) hn hl hlo hor (fun u hu => hok u (by cases r with | none => cases hu | some w => rw [List.mem_singleton.mp hu])) hE hx
    obtain ⟨t2, a1, b1⟩ := k T' e1 X'
    refine ⟨t2, stp t2 ?_, b1⟩
    have e9 : (r.map (xemb ρ')).toList ++ rest.map (xemb ρ) = r.toList.map (xemb ρ') ++ rest.map (xemb ρ) := by cases r <;> rfl
    show Steps p.tables e below (T'.setTop { F0 m pc mls (st.map (xemb ρ)) with pc := pc + 3, stack := (r.map (xemb ρ')).toList ++ rest.map (xemb ρ) }) t2
    rw [e9]
    exact a1
  unfold xcall at h
  cases hr : Nat.ble rest.length 4 with
  | false => rw [hr] at h; exact h.elim
  | true =>
    rw [hr] at h
    have hr4 := Nat.le_of_ble_eq_true hr
    cases h0 : Nat.beq (xbud c').1 0 with
    | true =>
      rw [h0] at h
      have e1 := Nat.eq_of_beq_eq_true h0
      have e2 := xbud0 c' e1
      exact main b (by omega) (by omega) hr4 h
    | false =>
      rw [h0] at h
      cases h1 : Nat.ble (xbud c').1 b.1 && Nat.ble (xbud c').2 b.2 with
      | false => rw [h1] at h; exact h.elim
      | true =>
        rw [h1] at h
        rw [Bool.and_eq_true, Nat.ble_eq, Nat.ble_eq] at h1
        exact main (b.1 - (xbud c').1, b.2 - (xbud c').2) (by dsimp only; omega) (by dsimp only; omega) hr4 h
theorem x_min (x y : Int32) : (if x < y then x else y) = (if y < x then y else x) := by
  by_cases h1 : x < y
  · rw [if_pos h1, if_neg (fun h2 => Int32.lt_irrefl (Int32.lt_trans h1 h2))]
  · by_cases h2 : y < x
    · rw [if_neg h1, if_pos h2]
    · rw [if_neg h1, if_neg h2]
      exact Int32.le_antisymm (Int32.not_lt.mp h2 |> fun h => Int32.not_lt.mp h1) (Int32.not_lt.mp h2)
theorem xs_native {p : Program} {l : Launch} {e : Env} {R : Room} {s : State} {m : MethodId} {args : Array Value} {below : List Frame} {meth : Method} {c : Code} {Qf : State → Prop} {G : xG} {base : Nat} {f : Nat → Nat → Int32} {N : Nat} {ρ0 : Nat → Nat} {σ0 : xH} {adV : Nat → Nat} {cc : ByteArray} {own : String} {ini : Bool} {nL mc ms d : Nat} {Ts : List Cond} (X : xCtx p R s m args meth c G base f N ρ0 adV cc own ini nL mc ms d Ts) {pc fn i : Nat} {ls : List (Option Value)} {st : List Value} {σ : xH} {b : Nat × Nat}
    (hw : (decode cc pc = .ok (.invokestatic i, 3) ∧ ((fn = 904 ∧ Cond.methodLink own i Lib.Math.max.name ∈ xW) ∨ (fn = 905 ∧ Cond.methodLink own i Lib.Math.min.name ∈ xW) ∨ (fn = 906 ∧ Cond.methodLink own i arraycopyName ∈ xW))) ∨ (decode cc pc = .ok (.invokevirtual i, 3) ∧ ((fn = 902 ∧ Cond.methodLink own i yJ0_length_8abf5 ∈ xW) ∨ (fn = 903 ∧ Cond.methodLink own i yJ0_charAt_5068e ∈ xW))))
    (h : xnative (xKM p l e R s m args below meth c Qf G base f N ρ0 σ0 nL mc ms) fn pc ls st σ b) : (xKM p l e R s m args below meth c Qf G base f N ρ0 σ0 nL mc ms) pc ls st σ b := by
  obtain ⟨hx, hb, hml, hown, hts, hW, hO, hcs, hfr, hin⟩ := X
  unfold xnative at h
  cases hle : Nat.ble st.length 9 with
  | false => rw [hle] at h; exact h.elim
  | true =>
    rw [hle] at h
    have h9r := Nat.le_of_ble_eq_true hle
    simp only [cond_true] at h
    split at h
    · sorry
    · sorry
    · rename_i y x r
      have hd : decode cc pc = .ok (.invokestatic i, 3) ∧ Cond.methodLink own i Lib.Math.max.name ∈ xW := by
        rcases hw with ⟨hd, hw | hw | hw⟩ | ⟨-, hw | hw⟩
        · exact ⟨hd, hw.2⟩
        all_goals exact absurd hw.1 (by decide)
      refine xs_stk h (fun q => xok_c trivial (xok_t (xok_t q))) (fun ρ H locs cells slots mls hR hS hl hlo hst hE hcc hss k => ?_)
      have hr := xcat18 (ρ := ρ) (rest := r) (by simp only [List.length_cons] at h9r; omega)
      exact va_mmax hx hb (hml.trans hl.1.symm) hown (hts _ (hW _ hd.2)) (hts _ (hW _ xw_max1)) (hts _ (hW _ xw_max2)) (hts _ (hW _ xw_max3)) (by omega) (by omega) (by have := hcs.1; omega) (by have := hcs.2; omega) hd.1 k
    · rename_i y x r
      have hd : decode cc pc = .ok (.invokestatic i, 3) ∧ Cond.methodLink own i Lib.Math.min.name ∈ xW := by
        rcases hw with ⟨hd, hw | hw | hw⟩ | ⟨-, hw | hw⟩
        · exact absurd hw.1 (by decide)
        · exact ⟨hd, hw.2⟩
        all_goals exact absurd hw.1 (by decide)
      refine xs_stk h (fun q => xok_c trivial (xok_t (xok_t q))) (fun ρ H locs cells slots mls hR hS hl hlo hst hE hcc hss k => ?_)
      have hr := xcat18 (ρ := ρ) (rest := r) (by simp only [List.length_cons] at h9r; omega)
      rw [show (if x < y then x else y) = (if y < x then y else x) from x_min x y] at k
      exact va_mmin hx hb (hml.trans hl.1.symm) hown (hts _ (hW _ hd.2)) (hts _ (hW _ xw_min1)) (hts _ (hW _ xw_max2)) (hts _ (hW _ xw_min3)) (by omega) (by omega) (by have := hcs.1; omega) (by have := hcs.2; omega) hd.1 k
    · rename_i n dp dd sp ss r
      have hd : decode cc pc = .ok (.invokestatic i, 3) ∧ Cond.methodLink own i arraycopyName ∈ xW := by
        rcases hw with ⟨hd, hw | hw | hw⟩ | ⟨-, hw | hw⟩
        · exact absurd hw.1 (by decide)
        · exact absurd hw.1 (by decide)
        · exact ⟨hd, hw.2⟩
        all_goals exact absurd hw.1 (by decide)
      have hr := fun ρ => xcat18 (ρ := ρ) (rest := r) (by simp only [List.length_cons] at h9r; omega)
      cases hi : xis σ ss 20 && xis σ dd 20 && Nat.blt 8 dd with
      | true =>
        rw [hi] at h
        rw [Bool.and_eq_true, Bool.and_eq_true] at hi
        simp only [cond_true] at h
        split at h
        · rename_i hcp
          obtain ⟨c1, c2, c3, c4, c5⟩ := hcp
          obtain ⟨hals, hks⟩ := xis_iff hi.1.1
          obtain ⟨hald, hkd⟩ := xis_iff hi.1.2
          have h9s : 9 ≤ ss := xlow_kind hks (by omega)
          have h9d : 9 ≤ dd := Nat.le_of_ble_eq_true hi.2
          rw [xlen_eq (Nat.lt_of_lt_of_le (by decide) h9s)] at c4
          rw [xlen_eq (Nat.lt_of_lt_of_le (by decide) h9d)] at c5
          intro ρ H locs cells slots mls hR hS hc hs hn hl hlo hst hE
          obtain ⟨q0, hq0⟩ := xids_of hR ⟨h9s, hals⟩
          obtain ⟨q1, hq1⟩ := xids_of hR ⟨h9d, hald⟩
          have hnf : nativeFrameWords "java/lang/System" "arraycopy" 5 ≤ 100 := by decide
          have hr' := hr ρ
          refine va_copyi hx hb (hml.trans hl.1.symm) hown (hts _ (hW _ hd.2)) (hts _ (hW _ xw_ac1)) (hts _ (hW _ xw_ac2)) (hts _ (hW _ xw_ac3)) hO.2.1 (xwsl_P hR) (xwsl_D hR) hS q0 q1 0 0 (by rw [xwsl_of hq0, xentry_20 hks]) (by rw [xwsl_of hq1, xentry_20 hkd]) rfl rfl rfl c3 c2 c1 c4 c5 (fun _ _ => rfl) (by omega) (by omega) hd.1 (fun H1 locs1 hP1 _ hS1 => ?_)
          have ho := xset_out hR hq1 hP1
          refine h ρ H1 locs1 cells slots mls (xRel_I hR ⟨h9d, hald⟩ (fun j hj => by funext q; exact if_neg (fun z => hj z.1)) ⟨?_, ho.2⟩) hS1 hc hs hn hl hlo (xok_t (xok_t (xok_t (xok_t (xok_t hst))))) hE
          rw [xentry_20 hkd]
          have e : xcpy σ.1 ss sp.toNatClampNeg dd dp.toNatClampNeg n.toNatClampNeg dd = va_cpy (σ.1 ss) (σ.1 dd) sp.toNatClampNeg dp.toNatClampNeg n.toNatClampNeg := by
            funext k
            unfold xcpy va_cpy
            by_cases hk : dp.toNatClampNeg ≤ k ∧ k < dp.toNatClampNeg + n.toNatClampNeg
            · rw [if_pos ⟨rfl, hk⟩, if_pos hk]
            · rw [if_neg (fun z => hk z.2), if_neg hk]
          show va_at G.1 vwCl (ρ dd, .inl (_, xslots dd, .inl (xcpy σ.1 ss sp.toNatClampNeg dd dp.toNatClampNeg n.toNatClampNeg dd))) H1
          rw [e]
          exact ho.1
        · exact h.elim
      | false =>
        rw [hi] at h
        simp only [cond_false] at h
        cases hi2 : xis σ ss 21 && xis σ dd 21 && Nat.blt 8 dd with
        | false => rw [hi2] at h; exact h.elim
        | true =>
          rw [hi2] at h
          have hi := hi2
          rw [Bool.and_eq_true, Bool.and_eq_true] at hi
          simp only [cond_true] at h
          split at h
          · rename_i hcp
            obtain ⟨c1, c2, c3, c4, c5⟩ := hcp
            obtain ⟨hals, hks⟩ := xis_iff hi.1.1
            obtain ⟨hald, hkd⟩ := xis_iff hi.1.2
            have h9s : 9 ≤ ss := xlow_kind hks (by omega)
            have h9d : 9 ≤ dd := Nat.le_of_ble_eq_true hi.2
            rw [xlen_eq (Nat.lt_of_lt_of_le (by decide) h9s)] at c4
            rw [xlen_eq (Nat.lt_of_lt_of_le (by decide) h9d)] at c5
            intro ρ H locs cells slots mls hR hS hc hs hn hl hlo hst hE
            obtain ⟨q0, hq0⟩ := xids_of hR ⟨h9s, hals⟩
            obtain ⟨q1, hq1⟩ := xids_of hR ⟨h9d, hald⟩
            have hnf : nativeFrameWords "java/lang/System" "arraycopy" 5 ≤ 100 := by decide
            have hr' := hr ρ
            refine va_copyl hx hb (hml.trans hl.1.symm) hown (hts _ (hW _ hd.2)) (hts _ (hW _ xw_ac1)) (hts _ (hW _ xw_ac2)) (hts _ (hW _ xw_ac3)) hO.2.1 (xwsl_P hR) (xwsl_D hR) hS q0 q1 1 1 (by rw [xwsl_of hq0, xentry_21 hks]) (by rw [xwsl_of hq1, xentry_21 hkd]) rfl rfl rfl c3 c2 c1 c4 c5 (fun _ _ => rfl) (by omega) (by omega) hd.1 (fun H1 locs1 hP1 _ hS1 => ?_)
            have ho := xset_out hR hq1 hP1
            refine h ρ H1 locs1 cells slots mls (xRel_L hR (fun j hj => by funext q; exact if_neg (fun z => hj z.1)) ⟨?_, ho.2⟩) hS1 hc hs hn hl hlo (xok_t (xok_t (xok_t (xok_t (xok_t hst))))) hE
            rw [xentry_21 hkd]
            have e : xcpl σ.2.1 ss sp.toNatClampNeg dd dp.toNatClampNeg n.toNatClampNeg dd = va_cpy (σ.2.1 ss) (σ.2.1 dd) sp.toNatClampNeg dp.toNatClampNeg n.toNatClampNeg := by
              funext k
              unfold xcpl va_cpy
              by_cases hk : dp.toNatClampNeg ≤ k ∧ k < dp.toNatClampNeg + n.toNatClampNeg
              · rw [if_pos ⟨rfl, hk⟩, if_pos hk]
              · rw [if_neg (fun z => hk z.2), if_neg hk]
            show va_at G.1 vwCl (ρ dd, .inl (_, xslots dd, .inr (.inl (xcpl σ.2.1 ss sp.toNatClampNeg dd dp.toNatClampNeg n.toNatClampNeg dd)))) H1
            rw [e]
            exact ho.1
          · exact h.elim
    · exact h.elim
set_option maxHeartbeats 4000000 in
theorem xs_istatic {p : Program} {l : Launch} {e : Env} {R : Room} {s : State} {m : MethodId} {args : Array Value} {below : List Frame} {meth : Method} {c : Code} {Qf : State → Prop} {G : xG} {base : Nat} {f : Nat → Nat → Int32} {N : Nat} {ρ0 : Nat → Nat} {σ0 : xH} {adV : Nat → Nat} {cc : ByteArray} {own : String} {ini : Bool} {nL mc ms d : Nat} {Ts : List Cond} (X : xCtx p R s m args meth c G base f N ρ0 adV cc own ini nL mc ms d Ts) {T : List (List (Option xE))} {rt : Nat} {C : xC} {Q : xQ} (hT : xallT (xwP own ini) T) (hD : xdecT cc 0 T = true) {pc : Nat} {ls : List (Option Value)} {st : List Value} {σ : xH} {b : Nat × Nat} (hC : xMet l G base f N adV C d) {i : Nat} {len : Nat} {v : Int32} {ax : List Nat} (hf : xfetch T pc = some (.invokestatic i, len, v, ax)) (h : xstp T rt C Q (xKM p l e R s m args below meth c Qf G base f N ρ0 σ0 nL mc ms) pc ls st σ b) : (xKM p l e R s m args below meth c Qf G base f N ρ0 σ0 nL mc ms) pc ls st σ b := by
  obtain ⟨hx, hb, hml, hown, hts, hW, hO, hcs, hfr, hin⟩ := X
  obtain ⟨hd, hwb, hj⟩ := xdecT_at hD hf
  have hw := xallT_at hT hf
  unfold xstp at h
  rw [hf] at h
  dsimp only at h hd
  have h1 : len = 3 := Nat.eq_of_beq_eq_true hwb
  subst h1
  split at h
  · rename_i c' n z1 z2
    have hw : xcal c' n ∧ Cond.methodLink own i (xyn c') ∈ xW ∧ Cond.static (xyn c') ∈ xW := hw
    obtain ⟨hcal, w1, w2⟩ := hw
    cases hle : Nat.ble n st.length with
    | false => rw [hle] at h; exact h.elim
    | true =>
      rw [hle] at h
      obtain ⟨xs, hp1, hp2, hp3⟩ := xpop_spec n [] st (Nat.le_of_ble_eq_true hle)
      rw [List.append_nil] at hp1
      rw [hp1] at h
      generalize (xpopN n [] st).2 = rest at h hp2
      subst hp2
      refine xcall_go hC hcal.2.2.2 hcs h (fun q => ⟨fun u hu => q u (List.mem_append_left _ (List.mem_reverse.mpr hu)), fun u hu => q u (List.mem_append_right _ hu)⟩) ?_
      intro F ρ H locs cells slots mls hR hS hE hsz hoa hcat hroom hM
      exact ⟨_, W.runS (As := xs.map (xemb ρ)) (rest := rest.map (xemb ρ)) ⟨hx, hb, hml, hown, hts⟩ hM ⟨xcallB hts hW hcal w1 hfr, hts _ (hW _ w2)⟩ ⟨xPc_blind, fun U hU hWU => xOld_pre hO hE hR hS hoa hU hWU⟩ rfl (by rw [List.length_map]; exact hp3) hsz (by show List.map (xemb ρ) (xs.reverse ++ rest) = _; rw [List.map_append, List.map_reverse]) (lv_room hcat) hd hroom⟩
  · exact xs_native ⟨hx, hb, hml, hown, hts, hW, hO, hcs, hfr, hin⟩ (Or.inl ⟨hd, hw⟩) h
  · exact h.elim

set_option maxHeartbeats 4000000 in
theorem xs_ivirtual {p : Program} {l : Launch} {e : Env} {R : Room} {s : State} {m : MethodId} {args : Array Value} {below : List Frame} {meth : Method} {c : Code} {Qf : State → Prop} {G : xG} {base : Nat} {f : Nat → Nat → Int32} {N : Nat} {ρ0 : Nat → Nat} {σ0 : xH} {adV : Nat → Nat} {cc : ByteArray} {own : String} {ini : Bool} {nL mc ms d : Nat} {Ts : List Cond} (X : xCtx p R s m args meth c G base f N ρ0 adV cc own ini nL mc ms d Ts) {T : List (List (Option xE))} {rt : Nat} {C : xC} {Q : xQ} (hT : xallT (xwP own ini) T) (hD : xdecT cc 0 T = true) {pc : Nat} {ls : List (Option Value)} {st : List Value} {σ : xH} {b : Nat × Nat} (hC : xMet l G base f N adV C d) {i : Nat} {len : Nat} {v : Int32} {ax : List Nat} (hf : xfetch T pc = some (.invokevirtual i, len, v, ax)) (h : xstp T rt C Q (xKM p l e R s m args below meth c Qf G base f N ρ0 σ0 nL mc ms) pc ls st σ b) : (xKM p l e R s m args below meth c Qf G base f N ρ0 σ0 nL mc ms) pc ls st σ b := by
  obtain ⟨hx, hb, hml, hown, hts, hW, hO, hcs, hfr, hin⟩ := X
  obtain ⟨hd, hwb, hj⟩ := xdecT_at hD hf
  have hw := xallT_at hT hf
  unfold xstp at h
  rw [hf] at h
  dsimp only at h hd
  have h1 : len = 3 := Nat.eq_of_beq_eq_true hwb
  subst h1
  split at h
  · rename_i c' n k z2
    have hw : xcal c' n ∧ Cond.methodLink own i (xyn c') ∈ xW ∧ Cond.instanceMethod (xyn c') ∈ xW ∧ Cond.selects (xyn c').cls (xyn c') (xyn c') ∈ xW ∧ (vwCl[k]? = some (xcn k) ∧ (xyn c').cls = (xcn k).1) := hw
    obtain ⟨hcal, w1, w2, w3, hcl, hceq⟩ := hw
    have hc10 := xvw _ hcl
    split at h
    · rename_i o as hpop
      cases hle : Nat.ble (n + 1) st.length && xis σ o k with
      | false => rw [hle] at h; exact h.elim
      | true =>
        rw [hle] at h
        rw [Bool.and_eq_true] at hle
        obtain ⟨hal, hkd⟩ := xis_iff hle.2
        have h9 : 9 ≤ o := xlow_kind hkd (Or.inl hc10)
        obtain ⟨xs, hp1, hp2, hp3⟩ := xpop_spec (n + 1) [] st (Nat.le_of_ble_eq_true hle.1)
        rw [List.append_nil] at hp1
        rw [hpop] at hp1
        generalize (xpopN (n + 1) [] st).2 = rest at h hp2
        subst hp1
        subst hp2
        have has : as.length = n := by simpa using hp3
        refine xcall_go hC hcal.2.2.2 hcs h (fun q => ⟨fun u hu => q u (List.mem_append_left _ (List.mem_reverse.mpr hu)), fun u hu => q u (List.mem_append_right _ hu)⟩) ?_
        intro F ρ H locs cells slots mls hR hS hE hsz hoa hcat hroom hM
        have hrecv : ∃ cellB : Cell, H[ρ o]? = some cellB ∧ cellB.vm.isStatics = false ∧ s.vm.findClass (xyn c').cls = some cellB.cls := by
          have hat := hR.1 o ⟨h9, hal⟩
          rw [xentry_o (by omega), hkd] at hat
          obtain ⟨r', q0, cell, q1, q2, q3, -⟩ := hat
          refine ⟨cell, q1, by rw [q3]; rfl, ?_⟩
          have hKn := (hO.2.1.1 k _ hcl).2.1
          rw [hceq, hKn, q2]
        exact ⟨_, W.runV (C := (xyn c').cls) (b := ρ o) (As := as.map (xemb ρ)) (rest := rest.map (xemb ρ)) ⟨hx, hb, hml, hown, hts⟩ hM ⟨xcallB hts hW hcal w1 hfr, hts _ (hW _ w2), hts _ (hW _ w3)⟩ ⟨xPc_blind, hrecv, fun U hU hWU => xOld_pre hO hE hR hS hoa hU hWU⟩ rfl (by rw [List.length_map]; exact has) hsz (by show List.map (xemb ρ) ((Value.ref o :: as).reverse ++ rest) = _; rw [List.map_append, List.map_reverse, List.map_cons, List.reverse_cons, List.append_assoc]; rfl) (lv_room hcat) hd hroom⟩
    · exact h.elim
  · exact xs_native ⟨hx, hb, hml, hown, hts, hW, hO, hcs, hfr, hin⟩ (Or.inr ⟨hd, hw⟩) h
  · exact h.elim

set_option maxHeartbeats 4000000 in
theorem xs_ispecial {p : Program} {l : Launch} {e : Env} {R : Room} {s : State} {m : MethodId} {args : Array Value} {below : List Frame} {meth : Method} {c : Code} {Qf : State → Prop} {G : xG} {base : Nat} {f : Nat → Nat → Int32} {N : Nat} {ρ0 : Nat → Nat} {σ0 : xH} {adV : Nat → Nat} {cc : ByteArray} {own : String} {ini : Bool} {nL mc ms d : Nat} {Ts : List Cond} (X : xCtx p R s m args meth c G base f N ρ0 adV cc own ini nL mc ms d Ts) {T : List (List (Option xE))} {rt : Nat} {C : xC} {Q : xQ} (hT : xallT (xwP own ini) T) (hD : xdecT cc 0 T = true) {pc : Nat} {ls : List (Option Value)} {st : List Value} {σ : xH} {b : Nat × Nat} (hC : xMet l G base f N adV C d) {i : Nat} {len : Nat} {v : Int32} {ax : List Nat} (hf : xfetch T pc = some (.invokespecial i, len, v, ax)) (h : xstp T rt C Q (xKM p l e R s m args below meth c Qf G base f N ρ0 σ0 nL mc ms) pc ls st σ b) : (xKM p l e R s m args below meth c Qf G base f N ρ0 σ0 nL mc ms) pc ls st σ b := by
  obtain ⟨hx, hb, hml, hown, hts, hW, hO, hcs, hfr, hin⟩ := X
  obtain ⟨hd, hwb, hj⟩ := xdecT_at hD hf
  have hw := xallT_at hT hf
  unfold xstp at h
  rw [hf] at h
  dsimp only at h hd
  have h1 : len = 3 := Nat.eq_of_beq_eq_true hwb
  subst h1
  split at h
  · rename_i c' n k z2
    have hw : xcal c' n ∧ xrty c' = none ∧ (xyn c').name = "<init>" ∧ Cond.methodLink own i (xyn c') ∈ xW ∧ Cond.instanceMethod (xyn c') ∈ xW ∧ (vwCl[k]? = some (xcn k) ∧ (xyn c').cls = (xcn k).1) := hw
    obtain ⟨hcal, hrt, hnm, w1, w2, hcl, hceq⟩ := hw
    have hc10 := xvw _ hcl
    split at h
    · rename_i o as hpop
      cases hle : Nat.ble (n + 1) st.length && xis σ o k with
      | false => rw [hle] at h; exact h.elim
      | true =>
        rw [hle] at h
        rw [Bool.and_eq_true] at hle
        obtain ⟨hal, hkd⟩ := xis_iff hle.2
        have h9 : 9 ≤ o := xlow_kind hkd (Or.inl hc10)
        obtain ⟨xs, hp1, hp2, hp3⟩ := xpop_spec (n + 1) [] st (Nat.le_of_ble_eq_true hle.1)
        rw [List.append_nil] at hp1
        rw [hpop] at hp1
        generalize (xpopN (n + 1) [] st).2 = rest at h hp2
        subst hp1
        subst hp2
        have has : as.length = n := by simpa using hp3
        have hcb := xcallB hts hW hcal w1 hfr (own := own) (R := R) (s := s) (args := args) (ix := i) (d := d)
        rw [hrt] at hcb
        refine xcall_go hC hcal.2.2.2 hcs h (fun q => ⟨fun u hu => q u (List.mem_append_left _ (List.mem_reverse.mpr hu)), fun u hu => q u (List.mem_append_right _ hu)⟩) ?_
        intro F ρ H locs cells slots mls hR hS hE hsz hoa hcat hroom hM
        exact ⟨_, W.runI (b := ρ o) (As := as.map (xemb ρ)) (rest := rest.map (xemb ρ)) ⟨hx, hb, hml, hown, hts⟩ hM ⟨hcb, hnm, hts _ (hW _ w2)⟩ ⟨xPc_blind, fun U hU hWU => xOld_pre hO hE hR hS hoa hU hWU⟩ rfl (by rw [List.length_map]; exact has) hsz (by show List.map (xemb ρ) ((Value.ref o :: as).reverse ++ rest) = _; rw [List.map_append, List.map_reverse, List.map_cons, List.reverse_cons, List.append_assoc]; rfl) (lv_room hcat) hd hroom⟩
    · exact h.elim
  · split at h
    · rename_i o r
      cases hle : Nat.ble r.length 4 with
      | false => rw [hle] at h; exact h.elim
      | true =>
        rw [hle] at h
        intro ρ H locs cells slots mls hR hS hc hs hn hl hlo hst hE
        have h8 := xcat8 (ρ := ρ) (Nat.le_of_ble_eq_true hle)
        refine W.objInit hx hb hown (hts _ (hW _ hw)) (hts _ (hW _ xw_oi)) (hts _ (hW _ xw_oc)) rfl (by show mls.size = _; rw [hml]; exact hl.1) rfl hd (by omega) (by show 2 * 0 + _ + 12 ≤ _; omega) ?_
        exact h ρ H locs cells slots mls hR hS hc hs hn hl hlo (xok_t hst) hE
    · exact h.elim
  · exact h.elim
