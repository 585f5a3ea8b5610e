/-! THE PURE MACHINE'S STEPS ARE THE MACHINE'S: pictures -/
abbrev xG : Type := va_G × Nat × Nat × Nat × Nat
def xA (base : Nat) : Nat → Prop := fun q => base ≤ q
def xemb (ρ : Nat → Nat) : Value → Value
  | .ref a => .ref (ρ a)
  | v => v
def xasc (ρ : Nat → Nat) : Nat → List (Option Value) → List (Nat × Value)
  | _, [] => []
  | i, none :: t => xasc ρ (i + 1) t
  | i, some v :: t => (i, xemb ρ v) :: xasc ρ (i + 1) t
theorem xemb_cat (ρ : Nat → Nat) (v : Value) : (xemb ρ v).category = v.category := by cases v <;> rfl
theorem xasc_mem {ρ : Nat → Nat} : ∀ (ls : List (Option Value)) (i j : Nat) (w : Value), (j, w) ∈ xasc ρ i ls ↔ ∃ v, i ≤ j ∧ xget ls (j - i) = some v ∧ w = xemb ρ v
  | [], i, j, w => by simp [xasc, xget, xnth]
  | none :: t, i, j, w => by
    rw [xasc, xasc_mem t (i + 1) j w]
    constructor
    · rintro ⟨v, h1, h2, h3⟩
      refine ⟨v, by omega, ?_, h3⟩
      rw [show j - i = (j - (i + 1)) + 1 by omega]
      exact h2
    · rintro ⟨v, h1, h2, h3⟩
      rcases Nat.eq_or_lt_of_le h1 with e | e
      · subst e
        rw [Nat.sub_self] at h2
        cases h2
      · refine ⟨v, by omega, ?_, h3⟩
        rw [show j - i = (j - (i + 1)) + 1 by omega] at h2
        exact h2
  | some a :: t, i, j, w => by
    rw [xasc, List.mem_cons, xasc_mem t (i + 1) j w]
    constructor
    · rintro (h | ⟨v, h1, h2, h3⟩)
      · cases h
        exact ⟨a, Nat.le_refl _, by rw [Nat.sub_self]; rfl, rfl⟩
      · refine ⟨v, by omega, ?_, h3⟩
        rw [show j - i = (j - (i + 1)) + 1 by omega]
        exact h2
    · rintro ⟨v, h1, h2, h3⟩
      rcases Nat.eq_or_lt_of_le h1 with e | e
      · subst e
        rw [Nat.sub_self] at h2
        have : a = v := by simpa [xget, xnth] using h2
        subst this
        exact Or.inl (by rw [h3])
      · refine Or.inr ⟨v, by omega, ?_, h3⟩
        rw [show j - i = (j - (i + 1)) + 1 by omega] at h2
        exact h2
theorem xnth_xset {α : Type} {d v : α} : ∀ (l : List α) (k j : Nat), xnth d (xset l k v) j = if j = k ∧ k < l.length then v else xnth d l j
  | [], k, j => by simp [xset, xnth]
  | a :: t, 0, 0 => by simp [xset, xnth]
  | a :: t, 0, j + 1 => by simp [xset, xnth]
  | a :: t, k + 1, 0 => by simp [xset, xnth]
  | a :: t, k + 1, j + 1 => by simp [xset, xnth, xnth_xset t k j]
theorem xset_len {α : Type} {v : α} : ∀ (l : List α) (k : Nat), (xset l k v).length = l.length
  | [], _ => rfl
  | _ :: _, 0 => rfl
  | _ :: t, k + 1 => by simp [xset, xset_len t k]
theorem xclr_len : ∀ (l : List (Option Value)) (k : Nat), (xclr l k).length = l.length
  | [], k => by cases k with | zero => rfl | succ k => cases k <;> rfl
  | a :: t, 0 => rfl
  | a :: t, 1 => rfl
  | a :: t, n + 2 => by simp [xclr, xclr_len t (n + 1)]
theorem xclr_at : ∀ (l : List (Option Value)) (k j : Nat) (u : Value), xnth none (xclr l k) j = some u → xnth none l j = some u ∧ ¬ (j + 1 = k ∧ ∃ x, u = .long x)
  | [], k, j, u, h => by
    have : xclr [] k = [] := by cases k with | zero => rfl | succ k => cases k <;> rfl
    rw [this] at h
    cases h
  | a :: t, 0, j, u, h => ⟨h, by omega⟩
  | a :: t, 1, 0, u, h => by
    simp only [xclr, xnth] at h
    split at h
    · cases h
    · rename_i hn
      exact ⟨h, fun q => by obtain ⟨-, x, rfl⟩ := q; exact hn x h⟩
  | a :: t, 1, j + 1, u, h => ⟨h, by omega⟩
  | a :: t, n + 2, 0, u, h => ⟨h, by omega⟩
  | a :: t, n + 2, j + 1, u, h => by
    obtain ⟨h1, h2⟩ := xclr_at t (n + 1) j u h
    exact ⟨h1, fun q => h2 ⟨by omega, q.2⟩⟩
theorem xst1_at {ls : List (Option Value)} {k j : Nat} {v u : Value} (h : xget (xst1 ls k v) j = some u) (hk : k < ls.length) : (j = k ∧ u = v) ∨ (j ≠ k ∧ xget ls j = some u ∧ ¬ (j + 1 = k ∧ ∃ x, u = .long x)) := by
  unfold xget xst1 at h
  rw [xnth_xset] at h
  by_cases e : j = k
  · rw [if_pos ⟨e, by rw [xclr_len]; exact hk⟩] at h
    exact Or.inl ⟨e, (Option.some.inj h).symm⟩
  · rw [if_neg (fun q => e q.1)] at h
    obtain ⟨h1, h2⟩ := xclr_at _ _ _ _ h
    exact Or.inr ⟨e, h1, h2⟩
theorem xst2_at {ls : List (Option Value)} {k j : Nat} {v u : Value} (h : xget (xst2 ls k v) j = some u) (hk : k + 1 < ls.length) : (j = k ∧ u = v) ∨ (j ≠ k ∧ j ≠ k + 1 ∧ xget ls j = some u ∧ ¬ (j + 1 = k ∧ ∃ x, u = .long x)) := by
  unfold xget xst2 at h
  rw [xnth_xset] at h
  by_cases e2 : j = k + 1
  · rw [if_pos ⟨e2, by rw [xset_len, xclr_len]; exact hk⟩] at h
    cases h
  · rw [if_neg (fun q => e2 q.1), xnth_xset] at h
    by_cases e : j = k
    · rw [if_pos ⟨e, by rw [xclr_len]; omega⟩] at h
      exact Or.inl ⟨e, (Option.some.inj h).symm⟩
    · rw [if_neg (fun q => e q.1)] at h
      obtain ⟨h1, h2⟩ := xclr_at _ _ _ _ h
      exact Or.inr ⟨e, e2, h1, h2⟩
theorem xst1_len (ls : List (Option Value)) (k : Nat) (v : Value) : (xst1 ls k v).length = ls.length := by rw [xst1, xset_len, xclr_len]
theorem xst2_len (ls : List (Option Value)) (k : Nat) (v : Value) : (xst2 ls k v).length = ls.length := by rw [xst2, xset_len, xset_len, xclr_len]
/-- a value that the pure machine knows: its cell is alive -/
def xok (σ : xH) : Value → Prop
  | .ref a => xalive σ.2.2.2.1 a = true
  | .int _ => True
  | .long _ => True
  | .null => True
  | _ => False
theorem xok_cat2 {σ : xH} {u : Value} (h : xok σ u) (h2 : u.category = 2) : ∃ x, u = .long x := by
  cases u <;> first | exact ⟨_, rfl⟩ | exact h.elim | (simp [Value.category] at h2)
theorem xasc_st1 {ρ : Nat → Nat} {σ : xH} {ls : List (Option Value)} {k : Nat} {v : Value} (hk : k < ls.length) (ho : ∀ j u, xget ls j = some u → xok σ u) : ∀ q ∈ xasc ρ 0 (xst1 ls k v), q ∈ (k, xemb ρ v) :: (xasc ρ 0 ls).filter (fun q => !(q.1 == k) && !(q.1 + 1 == k && q.2.category == 2)) := by
  rintro ⟨j, w⟩ hq
  obtain ⟨u, -, h1, rfl⟩ := (xasc_mem _ _ _ _).mp hq
  rcases xst1_at h1 hk with ⟨rfl, rfl⟩ | ⟨e, h2, h3⟩
  · rw [Nat.sub_zero]; exact List.mem_cons_self
  · rw [Nat.sub_zero] at e h2 h3
    refine List.mem_cons_of_mem _ (List.mem_filter.mpr ⟨(xasc_mem _ _ _ _).mpr ⟨u, Nat.zero_le _, h2, rfl⟩, ?_⟩)
    rw [Bool.and_eq_true, Bool.not_eq_true', Bool.not_eq_true', Bool.and_eq_false_iff]
    refine ⟨beq_false_of_ne e, ?_⟩
    by_cases e1 : j + 1 = k
    · refine Or.inr (beq_false_of_ne fun e2 => h3 ⟨e1, xok_cat2 (ho _ _ h2) ?_⟩)
      rw [← xemb_cat ρ]; exact e2
    · exact Or.inl (beq_false_of_ne e1)
theorem xasc_st2 {ρ : Nat → Nat} {σ : xH} {ls : List (Option Value)} {k : Nat} {v : Value} (hk : k + 1 < ls.length) (ho : ∀ j u, xget ls j = some u → xok σ u) : ∀ q ∈ xasc ρ 0 (xst2 ls k v), q ∈ (k, xemb ρ v) :: (xasc ρ 0 ls).filter (fun q => !(q.1 == k) && (!(q.1 == k + 1) && !(q.1 + 1 == k && q.2.category == 2))) := by
  rintro ⟨j, w⟩ hq
  obtain ⟨u, -, h1, rfl⟩ := (xasc_mem _ _ _ _).mp hq
  rcases xst2_at h1 hk with ⟨rfl, rfl⟩ | ⟨e, e2, h2, h3⟩
  · rw [Nat.sub_zero]; exact List.mem_cons_self
  · rw [Nat.sub_zero] at e e2 h2 h3
    refine List.mem_cons_of_mem _ (List.mem_filter.mpr ⟨(xasc_mem _ _ _ _).mpr ⟨u, Nat.zero_le _, h2, rfl⟩, ?_⟩)
    rw [Bool.and_eq_true, Bool.and_eq_true, Bool.not_eq_true', Bool.not_eq_true', Bool.not_eq_true', Bool.and_eq_false_iff]
    refine ⟨beq_false_of_ne e, beq_false_of_ne e2, ?_⟩
    by_cases e1 : j + 1 = k
    · refine Or.inr (beq_false_of_ne fun e2 => h3 ⟨e1, xok_cat2 (ho _ _ h2) ?_⟩)
      rw [← xemb_cat ρ]; exact e2
    · exact Or.inl (beq_false_of_ne e1)
theorem lv_has_sub {ls : Array Slot} {n : Nat} {l l' : List (Nat × Value)} (h : lv_has ls n l) (hs : ∀ q ∈ l', q ∈ l) : lv_has ls n l' := ⟨h.1, h.2.1, fun q hq => h.2.2 q (hs q hq)⟩
theorem xloc {ρ : Nat → Nat} {ls : List (Option Value)} {mls : Array Slot} {n k : Nat} {v : Value} (h : lv_has mls n (xasc ρ 0 ls)) (hk : xget ls k = some v) : mls[k]? = some (.val (xemb ρ v)) :=
  h.2.2 (k, xemb ρ v) ((xasc_mem _ _ _ _).mpr ⟨v, Nat.zero_le _, hk, rfl⟩)
theorem xok_c {σ : xH} {v : Value} {st : List Value} (hv : xok σ v) (h : ∀ u ∈ st, xok σ u) : ∀ u ∈ v :: st, xok σ u := fun u hu => by
  rcases List.mem_cons.mp hu with rfl | hu
  · exact hv
  · exact h u hu
theorem xok_t {σ : xH} {v : Value} {st : List Value} (h : ∀ u ∈ v :: st, xok σ u) : ∀ u ∈ st, xok σ u := fun u hu => h u (List.mem_cons_of_mem _ hu)
theorem xok_st1 {σ : xH} {ls : List (Option Value)} {k : Nat} {v : Value} (hk : k < ls.length) (hv : xok σ v) (ho : ∀ j u, xget ls j = some u → xok σ u) : ∀ j u, xget (xst1 ls k v) j = some u → xok σ u := fun j u h => by
  rcases xst1_at h hk with ⟨-, rfl⟩ | ⟨-, h2, -⟩
  · exact hv
  · exact ho _ _ h2
theorem xok_st2 {σ : xH} {ls : List (Option Value)} {k : Nat} {v : Value} (hk : k + 1 < ls.length) (hv : xok σ v) (ho : ∀ j u, xget ls j = some u → xok σ u) : ∀ j u, xget (xst2 ls k v) j = some u → xok σ u := fun j u h => by
  rcases xst2_at h hk with ⟨-, rfl⟩ | ⟨-, -, h2, -⟩
  · exact hv
  · exact ho _ _ h2
/-! the heap -/
def xfval (ρ : Nat → Nat) (σ : xH) (id k : Nat) : Value := bif xisref (xfty (xkind id) k) then xemb ρ (xref (xnth none (xnth [] σ.2.2.1 id) k)) else .int (σ.1 id k)
def xslots (id : Nat) : Nat := (xnth (99, 0) xSh id).2
def xrow_of (ρ : Nat → Nat) (σ : xH) (id : Nat) : Nat → Option Nat := fun j => (xnth none (xnth [] σ.2.2.1 id) j).map ρ
def xentry (G : xG) (ρ : Nat → Nat) (σ : xH) (id : Nat) : va_E :=
  if xkind id < 10 then .inr (xkind id, (List.range (xslots id)).map (xfval ρ σ id))
  else if xkind id = 20 then .inl (G.2.1, xslots id, .inl (σ.1 id))
  else if xkind id = 21 then .inl (G.2.2.1, xslots id, .inr (.inl (σ.2.1 id)))
  else if xkind id = 22 then .inl (G.2.2.2.1, xslots id, .inr (.inr (.inr (.inr (xrow_of ρ σ id)))))
  else .inl (G.2.2.2.2, xslots id, .inr (.inr (.inr (.inr (xrow_of ρ σ id)))))
def xnew (σ : xH) (id : Nat) : Prop := 9 ≤ id ∧ xalive σ.2.2.2.1 id = true
def xRel (G : xG) (base : Nat) (f : Nat → Nat → Int32) (N : Nat) (ρ : Nat → Nat) (σ : xH) (H : Heap) : Prop :=
  (∀ id, xnew σ id → va_at G.1 vwCl (ρ id, xentry G ρ σ id) H) ∧
  (∀ i j, xnew σ i → xnew σ j → ρ i = ρ j → i = j) ∧
  (∀ id, xnew σ id → xA base (ρ id)) ∧
  (∀ id k q, xnew σ id → xnth none (xnth [] σ.2.2.1 id) k = some q → xalive σ.2.2.2.1 q = true) ∧
  (9 ≤ σ.2.2.2.1.1 ∧ σ.2.2.2.1.1 ≤ 112 ∧ 112 ≤ σ.2.2.2.1.2.1 ∧ σ.2.2.2.1.2.1 ≤ 158 ∧ 158 ≤ σ.2.2.2.1.2.2 ∧ σ.2.2.2.1.2.2 ≤ 204) ∧
  (σ.1 0 = f 0 ∧ σ.1 1 = f 1 ∧ σ.1 2 = f 2 ∧ σ.2.2.2.2 = N) ∧
  (204 ≤ σ.2.2.1.length ∧ ∀ id, xnew σ id → (xkind id < 10 ∨ xkind id = 22 ∨ xkind id = 23) → (xnth [] σ.2.2.1 id).length = xslots id)
def xext (ρ0 : Nat → Nat) (σ0 : xH) (ρ : Nat → Nat) (σ : xH) : Prop := (∀ id, xalive σ0.2.2.2.1 id = true → xalive σ.2.2.2.1 id = true ∧ ρ id = ρ0 id) ∧ ∀ z, z < 9 → ρ z = ρ0 z
def xtysOf (G : xG) : List (ClassId × FieldType) := [(G.2.1, .int), (G.2.2.1, .long), (G.2.2.2.1, .array .int), (G.2.2.2.2, .array .long)]
def xslen : List Nat := [4, 4, 3, 4, 5, 4]
def xsbyt : List (List Int32) := [[99, 117, 112, 115], [112, 111, 117, 114], [108, 97, 119], [115, 111, 114, 116], [103, 117, 101, 115, 116], [115, 105, 103, 110]]
/-- what was there before: the script, the two rows of constants, the texts, the classes -/
def xOld (G : xG) (base : Nat) (f : Nat → Nat → Int32) (N : Nat) (ρ : Nat → Nat) (adV : Nat → Nat) (U : State) : Prop :=
  base ≤ U.heap.size ∧ va_K G.1 vwCl (xtysOf G) U ∧ va_AOA .int U ∧ va_AOA .long U ∧
  (va_X (ρ 0) N (f 0) U U.heap ∧ ρ 0 < base) ∧
  (va_Z "TheOneWithout$Tellers" "ABOVE" "[I" (.ref (ρ 1)) (xA base) U U.heap ∧ va_T .int (ρ 1) 6 (fun j => .int (f 1 j)) (xA base) U U.heap) ∧
  (va_Z "TheOneWithout$Worlds" "SHIFTS" "[I" (.ref (ρ 2)) (xA base) U U.heap ∧ va_T .int (ρ 2) 6 (fun j => .int (f 2 j)) (xA base) U U.heap) ∧
  ((∀ q ∈ xstrs, vk_R q.1 q.2.1 q.2.2.1 (ρ q.2.2.2) U) ∧ vk_S 6 xslen xsbyt (fun i => ρ (3 + i)) adV (xA base) U U.heap ∧ va_Z "java/lang/String" "COMPACT_STRINGS" "Z" (.int 1) (xA base) U U.heap ∧ ∃ vF, va_Z "jdk/internal/util/Preconditions" "SIOOBE_FORMATTER" "Ljava/util/function/BiFunction;" vF (xA base) U U.heap ∧ (vF = .null ∨ ∃ a, vF = .ref a))
def xCtx (p : Program) (R : Room) (s : State) (m : MethodId) (args : Array Value) (meth : Method) (c : Code) (G : xG) (base : Nat) (f : Nat → Nat → Int32) (N : Nat) (ρ0 : Nat → Nat) (adV : Nat → Nat) (cc : ByteArray) (own : String) (ini : Bool) (nL mc ms d : Nat) (Ts : List Cond) : Prop :=
  p.tables.exec = Jvm.exec ∧ c.code = cc ∧ c.maxLocals = nL ∧ s.vm.findClass own = some m.cls ∧ (∀ w ∈ Ts, w.before args s = true) ∧ (∀ w ∈ xW, w ∈ Ts) ∧ xOld G base f N ρ0 adV s ∧ (mc ≤ R.cells ∧ ms ≤ R.slots) ∧ (d + 8 ≤ R.frames ∧ 40 * d + 400 ≤ R.locals) ∧ (ini = true → meth.name = "<init>")
def xKM (p : Program) (l : Launch) (e : Env) (R : Room) (s : State) (m : MethodId) (args : Array Value) (below : List Frame) (meth : Method) (c : Code) (Qf : State → Prop) (G : xG) (base : Nat) (f : Nat → Nat → Int32) (N : Nat) (ρ0 : Nat → Nat) (σ0 : xH) (nL mc ms : Nat) : xK := fun pc ls st σ b =>
  ∀ (ρ : Nat → Nat) (H : Heap) (locs : List Loc) (cells slots : Nat) (mls : Array Slot), xRel G base f N ρ σ H → va_S (xA base) s.heap H locs → cells + b.1 ≤ mc → slots + b.2 ≤ ms → ls.length = nL → lv_has mls nL (xasc ρ 0 ls) → (∀ j u, xget ls j = some u → xok σ u) → (∀ u ∈ st, xok σ u) → xext ρ0 σ0 ρ σ →
    W p l e R s m args below meth c H locs cells slots Qf (F0 m pc mls (st.map (xemb ρ)))
