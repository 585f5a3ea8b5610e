/-- an end of the method, by what it answers -/
def xRet (p : Program) (l : Launch) (e : Env) (R : Room) (s : State) (m : MethodId) (args : Array Value) (below : List Frame) (meth : Method) (c : Code) (Qf : State → Prop) (G : xG) (base : Nat) (f : Nat → Nat → Int32) (N : Nat) (ρ0 : Nat → Nat) (σ0 : xH) (mc ms : Nat) (cc : ByteArray) (rt : Nat) (Q : xQ) : Prop :=
  ∀ (ρ : Nat → Nat) (σ : xH) (H : Heap) (locs : List Loc) (cells slots pc : Nat) (mls : Array Slot), xRel G base f N ρ σ H → va_S (xA base) s.heap H locs → cells ≤ mc → slots ≤ ms → xext ρ0 σ0 ρ σ →
    (∀ x, Q (some (.int x)) σ → (rt = 1 ∨ rt = 2 ∧ (x = 0 ∨ x = 1)) → decode cc pc = .ok (.ireturn, 1) → W p l e R s m args below meth c H locs cells slots Qf (F0 m pc mls [.int x])) ∧
    (∀ x, Q (some (.long x)) σ → rt = 3 → decode cc pc = .ok (.lreturn, 1) → W p l e R s m args below meth c H locs cells slots Qf (F0 m pc mls [.long x])) ∧
    (∀ x, Q (some (.ref x)) σ → xalive σ.2.2.2.1 x = true → rt = 4 → decode cc pc = .ok (.areturn, 1) → W p l e R s m args below meth c H locs cells slots Qf (F0 m pc mls [.ref (ρ x)])) ∧
    (Q none σ → rt = 0 → decode cc pc = .ok (.return_, 1) → W p l e R s m args below meth c H locs cells slots Qf (F0 m pc mls []))
set_option maxHeartbeats 4000000 in
theorem xs_ireturn {p : Program} {l : Launch} {e : Env} {R : Room} {s : State} {m : MethodId} {args : Array Value} {below : List Frame} {meth : Method} {c : Code} {Qf : State → Prop} {G : xG} {base : Nat} {f : Nat → Nat → Int32} {N : Nat} {ρ0 : Nat → Nat} {σ0 : xH} {adV : Nat → Nat} {cc : ByteArray} {own : String} {ini : Bool} {nL mc ms d : Nat} {Ts : List Cond} (X : xCtx p R s m args meth c G base f N ρ0 adV cc own ini nL mc ms d Ts) {T : List (List (Option xE))} {rt : Nat} {C : xC} {Q : xQ} (hT : xallT (xwP own ini) T) (hD : xdecT cc 0 T = true) {pc : Nat} {ls : List (Option Value)} {st : List Value} {σ : xH} {b : Nat × Nat} (hRt : xRet p l e R s m args below meth c Qf G base f N ρ0 σ0 mc ms cc rt Q) {len : Nat} {v : Int32} {ax : List Nat} (hf : xfetch T pc = some (.ireturn, len, v, ax)) (h : xstp T rt C Q (xKM p l e R s m args below meth c Qf G base f N ρ0 σ0 nL mc ms) pc ls st σ b) : (xKM p l e R s m args below meth c Qf G base f N ρ0 σ0 nL mc ms) pc ls st σ b := by
  obtain ⟨hx, hb, hml, hown, hts, hW, hO, hcs, hfr, hin⟩ := X
  obtain ⟨hd, hwb, hj⟩ := xdecT_at hD hf
  have hw := xallT_at hT hf
  unfold xstp at h
  rw [hf] at h
  dsimp only at h hd
  have h1 : len = 1 := Nat.eq_of_beq_eq_true hwb
  subst h1
  split at h
  · rename_i x
    intro ρ H locs cells slots mls hR hS hc hs hn hl hlo hst hE
    obtain ⟨r1, r2, r3, r4⟩ := hRt ρ σ H locs cells slots pc mls hR hS (by omega) (by omega) hE
    cases hi : Nat.beq rt 1 || (Nat.beq rt 2 && xbool x) with
    | false => rw [hi] at h; exact h.elim
    | true =>
      rw [hi] at h
      rw [Bool.or_eq_true, Bool.and_eq_true] at hi
      refine r1 x h ?_ hd
      rcases hi with q | ⟨q, q2⟩
      · exact Or.inl (Nat.eq_of_beq_eq_true q)
      · exact Or.inr ⟨Nat.eq_of_beq_eq_true q, xbool_iff q2⟩
  · exact h.elim
set_option maxHeartbeats 4000000 in
theorem xs_lreturn {p : Program} {l : Launch} {e : Env} {R : Room} {s : State} {m : MethodId} {args : Array Value} {below : List Frame} {meth : Method} {c : Code} {Qf : State → Prop} {G : xG} {base : Nat} {f : Nat → Nat → Int32} {N : Nat} {ρ0 : Nat → Nat} {σ0 : xH} {adV : Nat → Nat} {cc : ByteArray} {own : String} {ini : Bool} {nL mc ms d : Nat} {Ts : List Cond} (X : xCtx p R s m args meth c G base f N ρ0 adV cc own ini nL mc ms d Ts) {T : List (List (Option xE))} {rt : Nat} {C : xC} {Q : xQ} (hT : xallT (xwP own ini) T) (hD : xdecT cc 0 T = true) {pc : Nat} {ls : List (Option Value)} {st : List Value} {σ : xH} {b : Nat × Nat} (hRt : xRet p l e R s m args below meth c Qf G base f N ρ0 σ0 mc ms cc rt Q) {len : Nat} {v : Int32} {ax : List Nat} (hf : xfetch T pc = some (.lreturn, len, v, ax)) (h : xstp T rt C Q (xKM p l e R s m args below meth c Qf G base f N ρ0 σ0 nL mc ms) pc ls st σ b) : (xKM p l e R s m args below meth c Qf G base f N ρ0 σ0 nL mc ms) pc ls st σ b := by
  obtain ⟨hx, hb, hml, hown, hts, hW, hO, hcs, hfr, hin⟩ := X
  obtain ⟨hd, hwb, hj⟩ := xdecT_at hD hf
  have hw := xallT_at hT hf
  unfold xstp at h
  rw [hf] at h
  dsimp only at h hd
  have h1 : len = 1 := Nat.eq_of_beq_eq_true hwb
  subst h1
  split at h
  · rename_i x
    intro ρ H locs cells slots mls hR hS hc hs hn hl hlo hst hE
    obtain ⟨r1, r2, r3, r4⟩ := hRt ρ σ H locs cells slots pc mls hR hS (by omega) (by omega) hE
    cases hi : Nat.beq rt 3 with
    | false => rw [hi] at h; exact h.elim
    | true =>
      rw [hi] at h
      exact r2 x h (Nat.eq_of_beq_eq_true hi) hd
  · exact h.elim
set_option maxHeartbeats 4000000 in
theorem xs_areturn {p : Program} {l : Launch} {e : Env} {R : Room} {s : State} {m : MethodId} {args : Array Value} {below : List Frame} {meth : Method} {c : Code} {Qf : State → Prop} {G : xG} {base : Nat} {f : Nat → Nat → Int32} {N : Nat} {ρ0 : Nat → Nat} {σ0 : xH} {adV : Nat → Nat} {cc : ByteArray} {own : String} {ini : Bool} {nL mc ms d : Nat} {Ts : List Cond} (X : xCtx p R s m args meth c G base f N ρ0 adV cc own ini nL mc ms d Ts) {T : List (List (Option xE))} {rt : Nat} {C : xC} {Q : xQ} (hT : xallT (xwP own ini) T) (hD : xdecT cc 0 T = true) {pc : Nat} {ls : List (Option Value)} {st : List Value} {σ : xH} {b : Nat × Nat} (hRt : xRet p l e R s m args below meth c Qf G base f N ρ0 σ0 mc ms cc rt Q) {len : Nat} {v : Int32} {ax : List Nat} (hf : xfetch T pc = some (.areturn, len, v, ax)) (h : xstp T rt C Q (xKM p l e R s m args below meth c Qf G base f N ρ0 σ0 nL mc ms) pc ls st σ b) : (xKM p l e R s m args below meth c Qf G base f N ρ0 σ0 nL mc ms) pc ls st σ b := by
  obtain ⟨hx, hb, hml, hown, hts, hW, hO, hcs, hfr, hin⟩ := X
  obtain ⟨hd, hwb, hj⟩ := xdecT_at hD hf
  have hw := xallT_at hT hf
  unfold xstp at h
  rw [hf] at h
  dsimp only at h hd
  have h1 : len = 1 := Nat.eq_of_beq_eq_true hwb
  subst h1
  split at h
  · rename_i x
    intro ρ H locs cells slots mls hR hS hc hs hn hl hlo hst hE
    obtain ⟨r1, r2, r3, r4⟩ := hRt ρ σ H locs cells slots pc mls hR hS (by omega) (by omega) hE
    cases hi : Nat.beq rt 4 with
    | false => rw [hi] at h; exact h.elim
    | true =>
      rw [hi] at h
      exact r3 x h (hst _ List.mem_cons_self) (Nat.eq_of_beq_eq_true hi) hd
  · exact h.elim
set_option maxHeartbeats 4000000 in
theorem xs_return {p : Program} {l : Launch} {e : Env} {R : Room} {s : State} {m : MethodId} {args : Array Value} {below : List Frame} {meth : Method} {c : Code} {Qf : State → Prop} {G : xG} {base : Nat} {f : Nat → Nat → Int32} {N : Nat} {ρ0 : Nat → Nat} {σ0 : xH} {adV : Nat → Nat} {cc : ByteArray} {own : String} {ini : Bool} {nL mc ms d : Nat} {Ts : List Cond} (X : xCtx p R s m args meth c G base f N ρ0 adV cc own ini nL mc ms d Ts) {T : List (List (Option xE))} {rt : Nat} {C : xC} {Q : xQ} (hT : xallT (xwP own ini) T) (hD : xdecT cc 0 T = true) {pc : Nat} {ls : List (Option Value)} {st : List Value} {σ : xH} {b : Nat × Nat} (hRt : xRet p l e R s m args below meth c Qf G base f N ρ0 σ0 mc ms cc rt Q) {len : Nat} {v : Int32} {ax : List Nat} (hf : xfetch T pc = some (.return_, len, v, ax)) (h : xstp T rt C Q (xKM p l e R s m args below meth c Qf G base f N ρ0 σ0 nL mc ms) pc ls st σ b) : (xKM p l e R s m args below meth c Qf G base f N ρ0 σ0 nL mc ms) pc ls st σ b := by
  obtain ⟨hx, hb, hml, hown, hts, hW, hO, hcs, hfr, hin⟩ := X
  obtain ⟨hd, hwb, hj⟩ := xdecT_at hD hf
  have hw := xallT_at hT hf
  unfold xstp at h
  rw [hf] at h
  dsimp only at h hd
  have h1 : len = 1 := Nat.eq_of_beq_eq_true hwb
  subst h1
  split at h
  · intro ρ H locs cells slots mls hR hS hc hs hn hl hlo hst hE
    obtain ⟨r1, r2, r3, r4⟩ := hRt ρ σ H locs cells slots pc mls hR hS (by omega) (by omega) hE
    cases hi : Nat.beq rt 0 with
    | false => rw [hi] at h; exact h.elim
    | true =>
      rw [hi] at h
      exact r4 h (Nat.eq_of_beq_eq_true hi) hd
  · exact h.elim
set_option maxHeartbeats 8000000 in
/-- EVERY STEP -/
theorem x_step {p : Program} {l : Launch} {e : Env} {R : Room} {s : State} {m : MethodId} {args : Array Value} {below : List Frame} {meth : Method} {c : Code} {Qf : State → Prop} {G : xG} {base : Nat} {f : Nat → Nat → Int32} {N : Nat} {ρ0 : Nat → Nat} {σ0 : xH} {adV : Nat → Nat} {cc : ByteArray} {own : String} {ini : Bool} {nL mc ms d : Nat} {Ts : List Cond} (X : xCtx p R s m args meth c G base f N ρ0 adV cc own ini nL mc ms d Ts) {T : List (List (Option xE))} {rt : Nat} {C : xC} {Q : xQ} (hT : xallT (xwP own ini) T) (hD : xdecT cc 0 T = true) {pc : Nat} {ls : List (Option Value)} {st : List Value} {σ : xH} {b : Nat × Nat} (hC : xMet l G base f N adV C d) (hRt : xRet p l e R s m args below meth c Qf G base f N ρ0 σ0 mc ms cc rt Q) (h : xstp T rt C Q (xKM p l e R s m args below meth c Qf G base f N ρ0 σ0 nL mc ms) pc ls st σ b) : (xKM p l e R s m args below meth c Qf G base f N ρ0 σ0 nL mc ms) pc ls st σ b := by
  cases hf : xfetch T pc with
  | none =>
    unfold xstp at h
    rw [hf] at h
    exact h.elim
  | some q =>
    obtain ⟨i, len, v, ax⟩ := q
    cases i with
    | iconst i => exact xs_iconst X hT hD hf h
    | bipush i => exact xs_bipush X hT hD hf h
    | sipush i => exact xs_sipush X hT hD hf h
    | lconst i => exact xs_lconst X hT hD hf h
    | ldc2_w i => exact xs_ldc2 X hT hD hf h
    | ldc i => exact xs_ldc X hT hD hf h
    | ldc_w i => exact xs_ldc_w X hT hD hf h
    | aconst_null => exact xs_null X hT hD hf h
    | iload_n i => exact xs_iload_n X hT hD hf h
    | lload_n i => exact xs_lload_n X hT hD hf h
    | aload_n i => exact xs_aload_n X hT hD hf h
    | iload i => exact xs_iload X hT hD hf h
    | lload i => exact xs_lload X hT hD hf h
    | aload i => exact xs_aload X hT hD hf h
    | istore_n i => exact xs_istore_n X hT hD hf h
    | istore i => exact xs_istore X hT hD hf h
    | astore_n i => exact xs_astore_n X hT hD hf h
    | lstore i => exact xs_lstore X hT hD hf h
    | iinc i o => exact xs_iinc X hT hD hf h
    | iadd => exact xs_iadd X hT hD hf h
    | isub => exact xs_isub X hT hD hf h
    | imul => exact xs_imul X hT hD hf h
    | idiv => exact xs_idiv X hT hD hf h
    | irem => exact xs_irem X hT hD hf h
    | ineg => exact xs_ineg X hT hD hf h
    | iand => exact xs_iand X hT hD hf h
    | ior => exact xs_ior X hT hD hf h
    | ishl => exact xs_ishl X hT hD hf h
    | ishr => exact xs_ishr X hT hD hf h
    | iushr => exact xs_iushr X hT hD hf h
    | i2l => exact xs_i2l X hT hD hf h
    | l2i => exact xs_l2i X hT hD hf h
    | i2b => exact xs_i2b X hT hD hf h
    | i2s => exact xs_i2s X hT hD hf h
    | land => exact xs_land X hT hD hf h
    | lor => exact xs_lor X hT hD hf h
    | lshl => exact xs_lshl X hT hD hf h
    | lcmp => exact xs_lcmp X hT hD hf h
    | pop => exact xs_pop X hT hD hf h
    | dup => exact xs_dup X hT hD hf h
    | dup_x1 => exact xs_dup_x1 X hT hD hf h
    | dup2 => exact xs_dup2 X hT hD hf h
    | goto o => exact xs_goto X hT hD hf h
    | ifCond cd o => exact xs_if X hT hD hf h
    | if_icmp cd o => exact xs_icmp X hT hD hf h
    | ifnonnull o => exact xs_ifnonnull X hT hD hf h
    | tableswitch a1 a2 a3 a4 => exact xs_tsw X hT hD hf h
    | lookupswitch a1 a2 => exact xs_lsw X hT hD hf h
    | getfield i => exact xs_getfield X hT hD hf h
    | putfield i => exact xs_putfield X hT hD hf h
    | getstatic i => exact xs_getstatic X hT hD hf h
    | arraylength => exact xs_alen X hT hD hf h
    | iaload => exact xs_iaload X hT hD hf h
    | laload => exact xs_laload X hT hD hf h
    | aaload => exact xs_aaload X hT hD hf h
    | iastore => exact xs_iastore X hT hD hf h
    | lastore => exact xs_lastore X hT hD hf h
    | aastore => exact xs_aastore X hT hD hf h
    | new i => exact xs_new X hT hD hf h
    | newarray t => exact xs_newarray X hT hD hf h
    | anewarray i => exact xs_anewarray X hT hD hf h
    | multianewarray i dm => exact xs_mna X hT hD hf h
    | invokestatic i => exact xs_istatic X hT hD hC hf h
    | invokevirtual i => exact xs_ivirtual X hT hD hC hf h
    | invokespecial i => exact xs_ispecial X hT hD hC hf h
    | ireturn => exact xs_ireturn X hT hD hRt hf h
    | lreturn => exact xs_lreturn X hT hD hRt hf h
    | areturn => exact xs_areturn X hT hD hRt hf h
    | return_ => exact xs_return X hT hD hRt hf h
    | _ =>
      unfold xstp at h
      rw [hf] at h
      exact h.elim
theorem x_ex {p : Program} {l : Launch} {e : Env} {R : Room} {s : State} {m : MethodId} {args : Array Value} {below : List Frame} {meth : Method} {c : Code} {Qf : State → Prop} {G : xG} {base : Nat} {f : Nat → Nat → Int32} {N : Nat} {ρ0 : Nat → Nat} {σ0 : xH} {adV : Nat → Nat} {cc : ByteArray} {own : String} {ini : Bool} {nL mc ms d : Nat} {Ts : List Cond} (X : xCtx p R s m args meth c G base f N ρ0 adV cc own ini nL mc ms d Ts) {T : List (List (Option xE))} {rt : Nat} {C : xC} {Q : xQ} (hT : xallT (xwP own ini) T) (hD : xdecT cc 0 T = true) {pc : Nat} {ls : List (Option Value)} {st : List Value} {σ : xH} {b : Nat × Nat} (hC : xMet l G base f N adV C d) (hRt : xRet p l e R s m args below meth c Qf G base f N ρ0 σ0 mc ms cc rt Q) (h : xEX T rt C Q pc ls st σ b) : (xKM p l e R s m args below meth c Qf G base f N ρ0 σ0 nL mc ms) pc ls st σ b := h _ (fun _ _ _ _ _ q => x_step X hT hD hC hRt q)
theorem xent_at {ρ : Nat → Nat} {σ : xH} : ∀ (as : List Value) (i : Nat), (∀ u ∈ as, xok σ u) → lv_args i (as.map (xemb ρ)) = xasc ρ i (xent as)
  | [], i, _ => rfl
  | a :: t, i, h => by
    have h1 := h a List.mem_cons_self
    have h2 : ∀ u ∈ t, xok σ u := fun u hu => h u (List.mem_cons_of_mem _ hu)
    cases a <;> first
      | exact h1.elim
      | (show (i, _) :: lv_args (i + 1) (t.map (xemb ρ)) = (i, _) :: xasc ρ (i + 1) (xent t); rw [xent_at t (i + 1) h2]; done)
      | (show (i, _) :: lv_args (i + 2) (t.map (xemb ρ)) = (i, _) :: xasc ρ (i + 2) (xent t); rw [xent_at t (i + 2) h2]; done)
theorem xent_len {ρ : Nat → Nat} {σ : xH} : ∀ (as : List Value), (∀ u ∈ as, xok σ u) → (lg_sl (as.map (xemb ρ))).length = (xent as).length
  | [], _ => rfl
  | a :: t, h => by
    have h1 := h a List.mem_cons_self
    have h2 : ∀ u ∈ t, xok σ u := fun u hu => h u (List.mem_cons_of_mem _ hu)
    have ih := xent_len (ρ := ρ) t h2
    unfold lg_sl at ih ⊢
    rw [List.map_cons, List.flatMap_cons, List.length_append, ih]
    cases a <;> first
      | exact h1.elim
      | (show 1 + _ = (_ :: xent t).length; rw [List.length_cons]; omega)
      | (show 2 + _ = (_ :: _ :: xent t).length; rw [List.length_cons, List.length_cons]; omega)
theorem xent_mem : ∀ (as : List Value) (j : Nat) (u : Value), xget (xent as) j = some u → u ∈ as
  | [], j, u, h => by cases j <;> cases h
  | a :: t, j, u, h => by
    have key : ∀ (q : List (Option Value)), q = xent t → ∀ j, xget q j = some u → u ∈ a :: t := fun q e j h => by subst e; exact List.mem_cons_of_mem _ (xent_mem t j u h)
    cases a with
    | long v =>
      cases j with
      | zero => exact (Option.some.inj h) ▸ List.mem_cons_self
      | succ j =>
        cases j with
        | zero => cases h
        | succ j => exact key _ rfl j h
    | _ =>
      cases j with
      | zero => exact (Option.some.inj h) ▸ List.mem_cons_self
      | succ j => exact key _ rfl j h
theorem xpad_len : ∀ (n : Nat) (l : List (Option Value)), (xpad n l).length = n
  | 0, _ => rfl
  | n + 1, [] => by simp [xpad, xpad_len n []]
  | n + 1, a :: t => by simp [xpad, xpad_len n t]
theorem xpad_at : ∀ (n : Nat) (l : List (Option Value)) (j : Nat) (u : Value), xget (xpad n l) j = some u → xget l j = some u
  | 0, _, j, u, h => by cases j <;> cases h
  | n + 1, [], 0, u, h => by cases h
  | n + 1, [], j + 1, u, h => by have := xpad_at n [] j u h; cases j <;> cases this
  | n + 1, a :: t, 0, u, h => h
  | n + 1, a :: t, j + 1, u, h => xpad_at n t j u h
set_option maxHeartbeats 4000000 in
/-- THE PURE MACHINE'S WORD HOLDS OF THE MACHINE: every method, at every depth -/
theorem x_met (l : Launch) (G : xG) (base : Nat) (f : Nat → Nat → Int32) (N : Nat) (adV : Nat → Nat) (hok : ∀ c, (Nat.blt c 301 || Nat.beq c 302) = true → xmOK c) : ∀ d, xMet l G base f N adV (xCd d) d
  | 0 => fun c as σ F h _ ρ => h.elim
  | d + 1 => fun c as σ F h hc ρ => by
    obtain ⟨hT, hD, hpl, hini, hret⟩ := hok c hc
    have h' : (bif Nat.ble (xent as).length (xmaxL c) then xEX (xcode c) (xrt c) (xCd d) F 0 (xpad (xmaxL c) (xent as)) [] σ (xbud c) else False) := h
    cases hle : Nat.ble (xent as).length (xmaxL c) with
    | false => rw [hle] at h'; exact h'.elim
    | true =>
    rw [hle] at h'
    have hle := Nat.le_of_ble_eq_true hle
    refine Met.ofW (cc := xcb c) (maxL := xmaxL c) (ret := xrty c) (ws' := xW) hpl rfl ?_
    intro p e s m args below meth cd s₁ B hml hv
    obtain ⟨rfl, hR, hO, hoa⟩ := hv
    have hx := B.exec
    have hb := B.bytes
    have hr := B.returns
    have hts := atoms_spec (ws := xws c) B.pre
    have hown : s.vm.findClass (xyn c).cls = some m.cls := findClass_of_methodNamed B.named
    have hlocks := B.notSynchronized
    have hname : meth.name = (xyn c).name := (name_of_methodNamed B.named B.method).1
    have hS : va_S (xA base) s.heap s.heap [] := va_S.rf
    have hl := lv_entry (as.map (xemb ρ)) (n := xmaxL c) (by rw [xent_len as hoa]; exact hle)
    rw [lg_entry_eq]
    generalize (lg_sl (as.map (xemb ρ)) ++ List.replicate (xmaxL c - (lg_sl (as.map (xemb ρ))).length) Slot.unset).toArray = ls at hl ⊢
    have hctx : xCtx p (headSpec (xws c) (xRm (d + 1) c)).room s m (as.map (xemb ρ)).toArray meth cd G base f N ρ adV (xcb c) (xyn c).cls (xini c) (xmaxL c) (xbud c).1 (xbud c).2 d (xws c) :=
      ⟨hx, hb, hml, hown, hts, fun w hw => List.mem_cons_of_mem _ hw, hO, ⟨Nat.le_refl _, Nat.le_refl _⟩, ⟨by show d + 8 ≤ d + 1 + 7; omega, by show 40 * d + 400 ≤ 40 * (d + 1) + 360; omega⟩, fun q => by rw [hname]; exact hini q⟩
    refine x_ex (Qf := MQ below (xQc G base f N ρ σ F) (as.map (xemb ρ)).toArray s (xbud c).1 (xbud c).2 (xA base)) (l := l) (e := e) (below := below) (σ0 := σ) hctx hT hD (x_met l G base f N adV hok d) ?_ h' ρ s.heap [] 0 0 ls hR hS (by omega) (by omega) (xpad_len _ _) (lv_has_sub hl ?_) ?_ (fun u hu => by cases hu) ⟨fun id hid => ⟨hid, rfl⟩, fun z hz => rfl⟩
    · intro ρ' τ H locs cells slots pc mls hR' hS' hc' hs' hE'
      refine ⟨fun x hQ hrt hd => ?_, fun x hQ hrt hd => ?_, fun x hQ hal hrt hd => ?_, fun hQ hrt hd => ?_⟩
      · refine W.widen (k := (xbud c).1) (n := (xbud c).2) hc' hs' ?_
        have hq : ∀ t : State, t.heap = H → s.WarmedH t.vm → xQc G base f N ρ σ F (as.map (xemb ρ)).toArray s (.returned (some (.int x))) t := fun t ht _ => ⟨some (.int x), τ, ρ', hQ, rfl, by rw [ht]; exact hR', hE', fun v hv => by cases hv; trivial, hS'.F ht⟩
        rcases hrt with hrt | ⟨hrt, hx01⟩
        · have hr1 : xrty c = some .int := by
            rcases hret with q | q | q | q | q
            · omega
            · exact q.2
            · omega
            · omega
            · omega
          exact W.iret hx hb (by rw [hr, hr1]) hq hS'.2.2 hd
        · have hr1 : xrty c = some .boolean := by
            rcases hret with q | q | q | q | q
            · omega
            · omega
            · exact q.2
            · omega
            · omega
          exact W.zret (ty := .boolean) hx hb (by rw [hr, hr1]) (by rcases hx01 with rfl | rfl <;> rfl) hq hS'.2.2 hd
      · refine W.widen (k := (xbud c).1) (n := (xbud c).2) hc' hs' ?_
        have hr1 : xrty c = some .long := by
          rcases hret with q | q | q | q | q
          · omega
          · omega
          · omega
          · exact q.2
          · omega
        exact W.lret hx hb (by rw [hr, hr1]) (fun t ht _ => ⟨some (.long x), τ, ρ', hQ, rfl, by rw [ht]; exact hR', hE', fun v hv => by cases hv; trivial, hS'.F ht⟩) hS'.2.2 hd
      · refine W.widen (k := (xbud c).1) (n := (xbud c).2) hc' hs' ?_
        have hr1 : ∃ n, xrty c = some (.object n) := by
          rcases hret with q | q | q | q | q
          · omega
          · omega
          · omega
          · omega
          · exact q.2
        obtain ⟨nn, hr1⟩ := hr1
        exact W.aret (v := .ref (ρ' x)) (rt := .object nn) hx hb (by rw [hr, hr1]) (Or.inl ⟨nn, rfl⟩) (Or.inr ⟨_, rfl⟩) (fun t ht _ => ⟨some (.ref x), τ, ρ', hQ, rfl, by rw [ht]; exact hR', hE', fun v hv => by cases hv; exact hal, hS'.F ht⟩) hS'.2.2 hd
      · refine W.widen (k := (xbud c).1) (n := (xbud c).2) hc' hs' ?_
        have hr1 : xrty c = none := by
          rcases hret with q | q | q | q | q
          · exact q.2
          · omega
          · omega
          · omega
          · omega
        exact W.vret hx hb (by rw [hr, hr1]) (fun t ht _ => ⟨none, τ, ρ', hQ, rfl, by rw [ht]; exact hR', hE', (fun v hv => by cases hv), hS'.F ht⟩) hS'.2.2 hd
    · intro q hq
      rw [xent_at as 0 hoa]
      obtain ⟨j, w⟩ := q
      obtain ⟨u, h1, h2, h3⟩ := (xasc_mem _ _ _ _).mp hq
      exact (xasc_mem _ _ _ _).mpr ⟨u, h1, xpad_at _ _ _ _ h2, h3⟩
    · intro j u hj
      exact hoa u (xent_mem as j u (xpad_at _ _ _ _ hj))
