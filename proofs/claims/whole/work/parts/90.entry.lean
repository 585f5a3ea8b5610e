theorem xi_0 : Cond.instantiable RX0 8 ∈ lw_tbl := List.mem_of_getElem? (i := 287) (by decide +kernel)
theorem xi_1 : Cond.instantiable RX1 7 ∈ lw_tbl := List.mem_of_getElem? (i := 240) (by decide +kernel)
theorem xi_2 : Cond.instantiable RX2 3 ∈ lw_tbl := List.mem_of_getElem? (i := 337) (by decide +kernel)
theorem xi_3 : Cond.instantiable RX3 4 ∈ lw_tbl := List.mem_of_getElem? (i := 246) (by decide +kernel)
theorem xi_4 : Cond.instantiable RX4 10 ∈ lw_tbl := List.mem_of_getElem? (i := 355) (by decide +kernel)
theorem xi_5 : Cond.instantiable RX5 4 ∈ lw_tbl := List.mem_of_getElem? (i := 318) (by decide +kernel)
theorem xi_6 : Cond.instantiable RX6 15 ∈ lw_tbl := List.mem_of_getElem? (i := 133) (by decide +kernel)
theorem xi_7 : Cond.instantiable RX7 8 ∈ lw_tbl := List.mem_of_getElem? (i := 203) (by decide +kernel)
theorem xi_8 : Cond.instantiable RX8 12 ∈ lw_tbl := List.mem_of_getElem? (i := 125) (by decide +kernel)
theorem xi_9 : Cond.instantiable RX9 42 ∈ lw_tbl := List.mem_of_getElem? (i := 1251) (by decide +kernel)
theorem xi_aI : Cond.arrayClass .int ∈ lw_tbl := List.mem_of_getElem? (i := 201) (by decide +kernel)
theorem xi_aJ : Cond.arrayClass .long ∈ lw_tbl := List.mem_of_getElem? (i := 353) (by decide +kernel)
theorem xi_oI : Cond.arrayOver (.array .int) ∈ lw_tbl := List.mem_of_getElem? (i := 1259) (by decide +kernel)
theorem xi_oJ : Cond.arrayOver (.array .long) ∈ lw_tbl := List.mem_of_getElem? (i := 1257) (by decide +kernel)
theorem xl_A : Cond.laysStatic "TheOneWithout$Tellers" "ABOVE" "[I" ∈ lw_tbl := List.mem_of_getElem? (i := 532) (by decide +kernel)
theorem xn_A : Cond.initialized "TheOneWithout$Tellers" ∈ lw_tbl := List.mem_of_getElem? (i := 113) (by decide +kernel)
theorem xl_S : Cond.laysStatic "TheOneWithout$Worlds" "SHIFTS" "[I" ∈ lw_tbl := List.mem_of_getElem? (i := 562) (by decide +kernel)
theorem xn_S : Cond.initialized "TheOneWithout$Worlds" ∈ lw_tbl := List.mem_of_getElem? (i := 109) (by decide +kernel)
theorem xl_C : Cond.laysStatic "java/lang/String" "COMPACT_STRINGS" "Z" ∈ lw_tbl := List.mem_of_getElem? (i := 866) (by decide +kernel)
theorem xn_C : Cond.initialized "java/lang/String" ∈ lw_tbl := List.mem_of_getElem? (i := 120) (by decide +kernel)
theorem xl_F : Cond.laysStatic "jdk/internal/util/Preconditions" "SIOOBE_FORMATTER" "Ljava/util/function/BiFunction;" ∈ lw_tbl := List.mem_of_getElem? (i := 882) (by decide +kernel)
theorem xn_F : Cond.initialized "jdk/internal/util/Preconditions" ∈ lw_tbl := List.mem_of_getElem? (i := 122) (by decide +kernel)
theorem xr_0_X4 : Cond.stringRef "TheOneWithout$Tape" 73 "cups" ∈ lw_tbl := List.mem_of_getElem? (i := 852) (by decide +kernel)
theorem xr_0_X9 : Cond.stringRef "TheOneWithoutModel" 249 "cups" ∈ lw_tbl := List.mem_of_getElem? (i := 1659) (by decide +kernel)
theorem xr_1_X4 : Cond.stringRef "TheOneWithout$Tape" 82 "pour" ∈ lw_tbl := List.mem_of_getElem? (i := 914) (by decide +kernel)
theorem xr_1_X9 : Cond.stringRef "TheOneWithoutModel" 255 "pour" ∈ lw_tbl := List.mem_of_getElem? (i := 1678) (by decide +kernel)
theorem xr_2_X4 : Cond.stringRef "TheOneWithout$Tape" 87 "law" ∈ lw_tbl := List.mem_of_getElem? (i := 920) (by decide +kernel)
theorem xr_2_X9 : Cond.stringRef "TheOneWithoutModel" 260 "law" ∈ lw_tbl := List.mem_of_getElem? (i := 1683) (by decide +kernel)
theorem xr_3_X4 : Cond.stringRef "TheOneWithout$Tape" 92 "sort" ∈ lw_tbl := List.mem_of_getElem? (i := 926) (by decide +kernel)
theorem xr_3_X9 : Cond.stringRef "TheOneWithoutModel" 261 "sort" ∈ lw_tbl := List.mem_of_getElem? (i := 1684) (by decide +kernel)
theorem xr_4_X4 : Cond.stringRef "TheOneWithout$Tape" 97 "guest" ∈ lw_tbl := List.mem_of_getElem? (i := 932) (by decide +kernel)
theorem xr_4_X9 : Cond.stringRef "TheOneWithoutModel" 263 "guest" ∈ lw_tbl := List.mem_of_getElem? (i := 1685) (by decide +kernel)
theorem xr_5_X4 : Cond.stringRef "TheOneWithout$Tape" 102 "sign" ∈ lw_tbl := List.mem_of_getElem? (i := 938) (by decide +kernel)
theorem xr_5_X9 : Cond.stringRef "TheOneWithoutModel" 265 "sign" ∈ lw_tbl := List.mem_of_getElem? (i := 1686) (by decide +kernel)
/-! THE CLAIM OUT OF ONE WALK OF THE LAW'S BODY. Your part is whole_start (and what it stands on); all else here is the same for every law, but numbers. -/
def R_law : String := "TheOneWithoutLaw"
def lw_P (b : Addr) (xs : List Int32) (args : Array Value) (s : State) : Prop := args = #[.ref b] ∧ s.IntsAt b xs ∧ xs.length ≤ 3072 ∧ (Jvm.Cond.and given_1 narrow_1).before args s = true
def lw_Q (_ : Array Value) (s : State) (o : Outcome) (t : State) : Prop := o = .returned (some (.int 1)) ∧ Framed s o t [] 600000 7302249
def lw_Z (below : List Frame) (a : Array Value) (s : State) : State → Prop := fun t => ∃ o, t.status = .running ∧ Ended t below o ∧ lw_Q a s o t
/-- the law's own end, with 1 on the stack, nothing written that was there before, its room as the claim has it -/
theorem lw_ret {p : Program} {l : Launch} {e : Env} {s : State} {m : MethodId} {below : List Frame} {meth : Method} {c : Code} {b : Nat} (hx : p.tables.exec = Jvm.exec) (hb : c.code = code) (hr : meth.sig.returnType = ret) (hlocks : meth.locks = false) {pc : Nat} {H : Heap} {ls : Array Slot} (hdg : decode code pc = .ok (.ireturn, 1)) : W p l e room_1 s m #[Value.ref b] below meth c H [] 600000 7302249 (lw_Z below #[Value.ref b] s) (F0 m pc ls [.int 1]) := by
  intro T hT X
  obtain ⟨fs, hret, hrun, hended, hW, hframe⟩ := X.leave (v := some (.int 1)) (hlocks := hlocks) (fun h => by rw [hr] at h; cases h)
  have hmeth' : T.vm.method? m = some meth := X.method'
  refine ⟨T.setFrames fs, ?_, .returned (some (.int 1)), hrun, hended, rfl, ⟨_, rfl⟩, hW, hframe⟩
  jvm_step X.here [X.here.top, hx, hb, hdg, hmeth', hr, ret, narrow_b1]
  (try refine ⟨rfl, ?_⟩); (try refine ⟨rfl, ?_⟩)
  first | (intro acts; rw [hret _ acts rfl rfl rfl]) | rw [hret _ _ rfl rfl rfl]
  exact Steps.refl _
/-- what holds at the law's entry: the machine, the code, the tables' words (any of lw_tbl by 'hts w (by decide +kernel)'), the script of L ints xs at the cell b, what the Statement gives of the start (any of its parts by flat_of_before) -/
def lw_At (p : Program) (s : State) (m : MethodId) (meth : Method) (c : Code) (b L : Nat) (xs : Nat → Int32) : Prop :=
  p.tables.exec = Jvm.exec ∧ c.code = code ∧ meth.sig.returnType = ret ∧ c.maxLocals = 4 ∧ s.vm.findClass R_law = some m.cls ∧ (∀ w ∈ lw_tbl, w.before #[Value.ref b] s = true) ∧ va_X b L xs s s.heap ∧ b < s.heap.size ∧ meth.locks = false ∧ (Jvm.Cond.and given_1 narrow_1).before #[Value.ref b] s = true
def xAB (k : Nat) : Int32 := ([-1, 0, 0, 2, 3, 2] : List Int32).getD k 0
def xSF (k : Nat) : Int32 := ([15, 12, 9, 6, 3, 0] : List Int32).getD k 0
def xf0 (xs : Nat → Int32) : xI := fun o k => if o = 0 then xs k else if o = 1 then xAB k else if o = 2 then xSF k else 0
def xσ0 (xs : Nat → Int32) (L : Nat) : xH := (xf0 xs, fun _ _ => 0, List.replicate 204 [], (9, 112, 158), L)
theorem x_inst : ∀ c, c < 10 → Cond.instantiable (xcn c).1 (xcn c).2.2 ∈ lw_tbl := by
  intro c hc
  match c, hc with
  | 0, _ => exact xi_0
  | 1, _ => exact xi_1
  | 2, _ => exact xi_2
  | 3, _ => exact xi_3
  | 4, _ => exact xi_4
  | 5, _ => exact xi_5
  | 6, _ => exact xi_6
  | 7, _ => exact xi_7
  | 8, _ => exact xi_8
  | 9, _ => exact xi_9
  | n + 10, h => exact absurd h (by omega)
def xks : List Nat := [73, 82, 87, 92, 97, 102]
def xkm : List Nat := [249, 255, 260, 261, 263, 265]
theorem x_eqS {args : Array Value} {s : State} {t t' : Term} {a : Nat} (h : (Cond.eq t t').before args s = true) (hv : t.eval args s none [] s = some (.ref a)) : t'.eval args s none [] s = some (.ref a) := by
  cases hq : t'.eval args s none [] s with
  | none => simp [Cond.before, Cond.holds, Cond.value, hv, hq] at h
  | some w =>
    cases w <;> simp [Cond.before, Cond.holds, Cond.value, hv, hq] at h
    all_goals first | exact congrArg (fun z => some (Value.ref z)) h.symm | skip
set_option maxHeartbeats 8000000 in
/-- what the Statement gives of the strings -/
theorem x_strs {s : State} {b : Nat} {A : Nat → Prop} (hs : ∀ w ∈ flatC (Jvm.Cond.and given_1 narrow_1), w.before #[Value.ref b] s = true) (hA : ∀ a : Nat, a < s.heap.size → ¬ A a) : ∃ adK adV : Nat → Nat, vk_S 6 xslen xsbyt adK adV A s s.heap ∧ (∀ i, i < 6 → (Term.string "TheOneWithout$Tape" (xks.getD i 0)).eval #[Value.ref b] s none [] s = some (.ref (adK i))) ∧ ∀ i, i < 6 → (Term.string "TheOneWithoutModel" (xkm.getD i 0)).eval #[Value.ref b] s none [] s = some (.ref (adK i)) := by
  have hN : ∀ i : Nat, i < 6 → xslen.getD i 0 < 2 ^ 31 := by decide
  have q1 : ∀ i : Nat, i < 6 → (Cond.exactly (.string "TheOneWithout$Tape" (xks.getD i 0)) "java/lang/String").before #[Value.ref b] s = true := by
    intro i hi
    match i, hi with
    | 0, _ => exact hs (Cond.exactly (.string "TheOneWithout$Tape" 73) "java/lang/String") (by decide +kernel)
    | 1, _ => exact hs (Cond.exactly (.string "TheOneWithout$Tape" 82) "java/lang/String") (by decide +kernel)
    | 2, _ => exact hs (Cond.exactly (.string "TheOneWithout$Tape" 87) "java/lang/String") (by decide +kernel)
    | 3, _ => exact hs (Cond.exactly (.string "TheOneWithout$Tape" 92) "java/lang/String") (by decide +kernel)
    | 4, _ => exact hs (Cond.exactly (.string "TheOneWithout$Tape" 97) "java/lang/String") (by decide +kernel)
    | 5, _ => exact hs (Cond.exactly (.string "TheOneWithout$Tape" 102) "java/lang/String") (by decide +kernel)
    | n + 6, h => exact absurd h (by omega)
  have q2 : ∀ i : Nat, i < 6 → (Cond.eq (.field (.string "TheOneWithout$Tape" (xks.getD i 0)) "java/lang/String" "coder" "B") (.int 0)).before #[Value.ref b] s = true := by
    intro i hi
    match i, hi with
    | 0, _ => exact hs (Cond.eq (.field (.string "TheOneWithout$Tape" 73) "java/lang/String" "coder" "B") (.int 0)) (by decide +kernel)
    | 1, _ => exact hs (Cond.eq (.field (.string "TheOneWithout$Tape" 82) "java/lang/String" "coder" "B") (.int 0)) (by decide +kernel)
    | 2, _ => exact hs (Cond.eq (.field (.string "TheOneWithout$Tape" 87) "java/lang/String" "coder" "B") (.int 0)) (by decide +kernel)
    | 3, _ => exact hs (Cond.eq (.field (.string "TheOneWithout$Tape" 92) "java/lang/String" "coder" "B") (.int 0)) (by decide +kernel)
    | 4, _ => exact hs (Cond.eq (.field (.string "TheOneWithout$Tape" 97) "java/lang/String" "coder" "B") (.int 0)) (by decide +kernel)
    | 5, _ => exact hs (Cond.eq (.field (.string "TheOneWithout$Tape" 102) "java/lang/String" "coder" "B") (.int 0)) (by decide +kernel)
    | n + 6, h => exact absurd h (by omega)
  have q3 : ∀ i : Nat, i < 6 → (Cond.arrayOf (.field (.string "TheOneWithout$Tape" (xks.getD i 0)) "java/lang/String" "value" "[B") .byte).before #[Value.ref b] s = true := by
    intro i hi
    match i, hi with
    | 0, _ => exact hs (Cond.arrayOf (.field (.string "TheOneWithout$Tape" 73) "java/lang/String" "value" "[B") .byte) (by decide +kernel)
    | 1, _ => exact hs (Cond.arrayOf (.field (.string "TheOneWithout$Tape" 82) "java/lang/String" "value" "[B") .byte) (by decide +kernel)
    | 2, _ => exact hs (Cond.arrayOf (.field (.string "TheOneWithout$Tape" 87) "java/lang/String" "value" "[B") .byte) (by decide +kernel)
    | 3, _ => exact hs (Cond.arrayOf (.field (.string "TheOneWithout$Tape" 92) "java/lang/String" "value" "[B") .byte) (by decide +kernel)
    | 4, _ => exact hs (Cond.arrayOf (.field (.string "TheOneWithout$Tape" 97) "java/lang/String" "value" "[B") .byte) (by decide +kernel)
    | 5, _ => exact hs (Cond.arrayOf (.field (.string "TheOneWithout$Tape" 102) "java/lang/String" "value" "[B") .byte) (by decide +kernel)
    | n + 6, h => exact absurd h (by omega)
  have q4 : ∀ i : Nat, i < 6 → (Cond.eq (.length (.field (.string "TheOneWithout$Tape" (xks.getD i 0)) "java/lang/String" "value" "[B")) (.int (Int32.ofNat (xslen.getD i 0)))).before #[Value.ref b] s = true := by
    intro i hi
    match i, hi with
    | 0, _ => exact hs (Cond.eq (.length (.field (.string "TheOneWithout$Tape" 73) "java/lang/String" "value" "[B")) (.int 4)) (by decide +kernel)
    | 1, _ => exact hs (Cond.eq (.length (.field (.string "TheOneWithout$Tape" 82) "java/lang/String" "value" "[B")) (.int 4)) (by decide +kernel)
    | 2, _ => exact hs (Cond.eq (.length (.field (.string "TheOneWithout$Tape" 87) "java/lang/String" "value" "[B")) (.int 3)) (by decide +kernel)
    | 3, _ => exact hs (Cond.eq (.length (.field (.string "TheOneWithout$Tape" 92) "java/lang/String" "value" "[B")) (.int 4)) (by decide +kernel)
    | 4, _ => exact hs (Cond.eq (.length (.field (.string "TheOneWithout$Tape" 97) "java/lang/String" "value" "[B")) (.int 5)) (by decide +kernel)
    | 5, _ => exact hs (Cond.eq (.length (.field (.string "TheOneWithout$Tape" 102) "java/lang/String" "value" "[B")) (.int 4)) (by decide +kernel)
    | n + 6, h => exact absurd h (by omega)
  have q5 : ∀ i : Nat, i < 6 → ∀ j : Nat, j < xslen.getD i 0 → (Cond.eq (.elem (.field (.string "TheOneWithout$Tape" (xks.getD i 0)) "java/lang/String" "value" "[B") (.int (Int32.ofNat j))) (.int ((xsbyt.getD i []).getD j 0))).before #[Value.ref b] s = true := by
    intro i hi
    match i, hi with
    | 0, _ =>
      intro j hj
      match j, hj with
      | 0, _ => exact hs (Cond.eq (.elem (.field (.string "TheOneWithout$Tape" 73) "java/lang/String" "value" "[B") (.int 0)) (.int 99)) (by decide +kernel)
      | 1, _ => exact hs (Cond.eq (.elem (.field (.string "TheOneWithout$Tape" 73) "java/lang/String" "value" "[B") (.int 1)) (.int 117)) (by decide +kernel)
      | 2, _ => exact hs (Cond.eq (.elem (.field (.string "TheOneWithout$Tape" 73) "java/lang/String" "value" "[B") (.int 2)) (.int 112)) (by decide +kernel)
      | 3, _ => exact hs (Cond.eq (.elem (.field (.string "TheOneWithout$Tape" 73) "java/lang/String" "value" "[B") (.int 3)) (.int 115)) (by decide +kernel)
      | j + 4, h => exact absurd h (by show ¬ j + 4 < 4; omega)
    | 1, _ =>
      intro j hj
      match j, hj with
      | 0, _ => exact hs (Cond.eq (.elem (.field (.string "TheOneWithout$Tape" 82) "java/lang/String" "value" "[B") (.int 0)) (.int 112)) (by decide +kernel)
      | 1, _ => exact hs (Cond.eq (.elem (.field (.string "TheOneWithout$Tape" 82) "java/lang/String" "value" "[B") (.int 1)) (.int 111)) (by decide +kernel)
      | 2, _ => exact hs (Cond.eq (.elem (.field (.string "TheOneWithout$Tape" 82) "java/lang/String" "value" "[B") (.int 2)) (.int 117)) (by decide +kernel)
      | 3, _ => exact hs (Cond.eq (.elem (.field (.string "TheOneWithout$Tape" 82) "java/lang/String" "value" "[B") (.int 3)) (.int 114)) (by decide +kernel)
      | j + 4, h => exact absurd h (by show ¬ j + 4 < 4; omega)
    | 2, _ =>
      intro j hj
      match j, hj with
      | 0, _ => exact hs (Cond.eq (.elem (.field (.string "TheOneWithout$Tape" 87) "java/lang/String" "value" "[B") (.int 0)) (.int 108)) (by decide +kernel)
      | 1, _ => exact hs (Cond.eq (.elem (.field (.string "TheOneWithout$Tape" 87) "java/lang/String" "value" "[B") (.int 1)) (.int 97)) (by decide +kernel)
      | 2, _ => exact hs (Cond.eq (.elem (.field (.string "TheOneWithout$Tape" 87) "java/lang/String" "value" "[B") (.int 2)) (.int 119)) (by decide +kernel)
      | j + 3, h => exact absurd h (by show ¬ j + 3 < 3; omega)
    | 3, _ =>
      intro j hj
      match j, hj with
      | 0, _ => exact hs (Cond.eq (.elem (.field (.string "TheOneWithout$Tape" 92) "java/lang/String" "value" "[B") (.int 0)) (.int 115)) (by decide +kernel)
      | 1, _ => exact hs (Cond.eq (.elem (.field (.string "TheOneWithout$Tape" 92) "java/lang/String" "value" "[B") (.int 1)) (.int 111)) (by decide +kernel)
      | 2, _ => exact hs (Cond.eq (.elem (.field (.string "TheOneWithout$Tape" 92) "java/lang/String" "value" "[B") (.int 2)) (.int 114)) (by decide +kernel)
      | 3, _ => exact hs (Cond.eq (.elem (.field (.string "TheOneWithout$Tape" 92) "java/lang/String" "value" "[B") (.int 3)) (.int 116)) (by decide +kernel)
      | j + 4, h => exact absurd h (by show ¬ j + 4 < 4; omega)
    | 4, _ =>
      intro j hj
      match j, hj with
      | 0, _ => exact hs (Cond.eq (.elem (.field (.string "TheOneWithout$Tape" 97) "java/lang/String" "value" "[B") (.int 0)) (.int 103)) (by decide +kernel)
      | 1, _ => exact hs (Cond.eq (.elem (.field (.string "TheOneWithout$Tape" 97) "java/lang/String" "value" "[B") (.int 1)) (.int 117)) (by decide +kernel)
      | 2, _ => exact hs (Cond.eq (.elem (.field (.string "TheOneWithout$Tape" 97) "java/lang/String" "value" "[B") (.int 2)) (.int 101)) (by decide +kernel)
      | 3, _ => exact hs (Cond.eq (.elem (.field (.string "TheOneWithout$Tape" 97) "java/lang/String" "value" "[B") (.int 3)) (.int 115)) (by decide +kernel)
      | 4, _ => exact hs (Cond.eq (.elem (.field (.string "TheOneWithout$Tape" 97) "java/lang/String" "value" "[B") (.int 4)) (.int 116)) (by decide +kernel)
      | j + 5, h => exact absurd h (by show ¬ j + 5 < 5; omega)
    | 5, _ =>
      intro j hj
      match j, hj with
      | 0, _ => exact hs (Cond.eq (.elem (.field (.string "TheOneWithout$Tape" 102) "java/lang/String" "value" "[B") (.int 0)) (.int 115)) (by decide +kernel)
      | 1, _ => exact hs (Cond.eq (.elem (.field (.string "TheOneWithout$Tape" 102) "java/lang/String" "value" "[B") (.int 1)) (.int 105)) (by decide +kernel)
      | 2, _ => exact hs (Cond.eq (.elem (.field (.string "TheOneWithout$Tape" 102) "java/lang/String" "value" "[B") (.int 2)) (.int 103)) (by decide +kernel)
      | 3, _ => exact hs (Cond.eq (.elem (.field (.string "TheOneWithout$Tape" 102) "java/lang/String" "value" "[B") (.int 3)) (.int 110)) (by decide +kernel)
      | j + 4, h => exact absurd h (by show ¬ j + 4 < 4; omega)
    | n + 6, h => exact absurd h (by omega)
  have q6 : ∀ i j : Nat, i < 6 → j < 6 → i ≠ j → (Cond.not (Cond.eq (.string "TheOneWithout$Tape" (xks.getD i 0)) (.string "TheOneWithout$Tape" (xks.getD j 0)))).before #[Value.ref b] s = true ∨ (Cond.not (Cond.eq (.string "TheOneWithout$Tape" (xks.getD j 0)) (.string "TheOneWithout$Tape" (xks.getD i 0)))).before #[Value.ref b] s = true := by
    intro i j hi hj hne
    match i, j, hi, hj with
    | 0, 0, _, _ => exact absurd rfl hne
    | 0, 1, _, _ => exact Or.inl (hs (Cond.not (Cond.eq (.string "TheOneWithout$Tape" 73) (.string "TheOneWithout$Tape" 82))) (by decide +kernel))
    | 0, 2, _, _ => exact Or.inl (hs (Cond.not (Cond.eq (.string "TheOneWithout$Tape" 73) (.string "TheOneWithout$Tape" 87))) (by decide +kernel))
    | 0, 3, _, _ => exact Or.inl (hs (Cond.not (Cond.eq (.string "TheOneWithout$Tape" 73) (.string "TheOneWithout$Tape" 92))) (by decide +kernel))
    | 0, 4, _, _ => exact Or.inl (hs (Cond.not (Cond.eq (.string "TheOneWithout$Tape" 73) (.string "TheOneWithout$Tape" 97))) (by decide +kernel))
    | 0, 5, _, _ => exact Or.inl (hs (Cond.not (Cond.eq (.string "TheOneWithout$Tape" 73) (.string "TheOneWithout$Tape" 102))) (by decide +kernel))
    | 1, 0, _, _ => exact Or.inr (hs (Cond.not (Cond.eq (.string "TheOneWithout$Tape" 73) (.string "TheOneWithout$Tape" 82))) (by decide +kernel))
    | 1, 1, _, _ => exact absurd rfl hne
    | 1, 2, _, _ => exact Or.inl (hs (Cond.not (Cond.eq (.string "TheOneWithout$Tape" 82) (.string "TheOneWithout$Tape" 87))) (by decide +kernel))
    | 1, 3, _, _ => exact Or.inl (hs (Cond.not (Cond.eq (.string "TheOneWithout$Tape" 82) (.string "TheOneWithout$Tape" 92))) (by decide +kernel))
    | 1, 4, _, _ => exact Or.inl (hs (Cond.not (Cond.eq (.string "TheOneWithout$Tape" 82) (.string "TheOneWithout$Tape" 97))) (by decide +kernel))
    | 1, 5, _, _ => exact Or.inl (hs (Cond.not (Cond.eq (.string "TheOneWithout$Tape" 82) (.string "TheOneWithout$Tape" 102))) (by decide +kernel))
    | 2, 0, _, _ => exact Or.inr (hs (Cond.not (Cond.eq (.string "TheOneWithout$Tape" 73) (.string "TheOneWithout$Tape" 87))) (by decide +kernel))
    | 2, 1, _, _ => exact Or.inr (hs (Cond.not (Cond.eq (.string "TheOneWithout$Tape" 82) (.string "TheOneWithout$Tape" 87))) (by decide +kernel))
    | 2, 2, _, _ => exact absurd rfl hne
    | 2, 3, _, _ => exact Or.inl (hs (Cond.not (Cond.eq (.string "TheOneWithout$Tape" 87) (.string "TheOneWithout$Tape" 92))) (by decide +kernel))
    | 2, 4, _, _ => exact Or.inl (hs (Cond.not (Cond.eq (.string "TheOneWithout$Tape" 87) (.string "TheOneWithout$Tape" 97))) (by decide +kernel))
    | 2, 5, _, _ => exact Or.inl (hs (Cond.not (Cond.eq (.string "TheOneWithout$Tape" 87) (.string "TheOneWithout$Tape" 102))) (by decide +kernel))
    | 3, 0, _, _ => exact Or.inr (hs (Cond.not (Cond.eq (.string "TheOneWithout$Tape" 73) (.string "TheOneWithout$Tape" 92))) (by decide +kernel))
    | 3, 1, _, _ => exact Or.inr (hs (Cond.not (Cond.eq (.string "TheOneWithout$Tape" 82) (.string "TheOneWithout$Tape" 92))) (by decide +kernel))
    | 3, 2, _, _ => exact Or.inr (hs (Cond.not (Cond.eq (.string "TheOneWithout$Tape" 87) (.string "TheOneWithout$Tape" 92))) (by decide +kernel))
    | 3, 3, _, _ => exact absurd rfl hne
    | 3, 4, _, _ => exact Or.inl (hs (Cond.not (Cond.eq (.string "TheOneWithout$Tape" 92) (.string "TheOneWithout$Tape" 97))) (by decide +kernel))
    | 3, 5, _, _ => exact Or.inl (hs (Cond.not (Cond.eq (.string "TheOneWithout$Tape" 92) (.string "TheOneWithout$Tape" 102))) (by decide +kernel))
    | 4, 0, _, _ => exact Or.inr (hs (Cond.not (Cond.eq (.string "TheOneWithout$Tape" 73) (.string "TheOneWithout$Tape" 97))) (by decide +kernel))
    | 4, 1, _, _ => exact Or.inr (hs (Cond.not (Cond.eq (.string "TheOneWithout$Tape" 82) (.string "TheOneWithout$Tape" 97))) (by decide +kernel))
    | 4, 2, _, _ => exact Or.inr (hs (Cond.not (Cond.eq (.string "TheOneWithout$Tape" 87) (.string "TheOneWithout$Tape" 97))) (by decide +kernel))
    | 4, 3, _, _ => exact Or.inr (hs (Cond.not (Cond.eq (.string "TheOneWithout$Tape" 92) (.string "TheOneWithout$Tape" 97))) (by decide +kernel))
    | 4, 4, _, _ => exact absurd rfl hne
    | 4, 5, _, _ => exact Or.inl (hs (Cond.not (Cond.eq (.string "TheOneWithout$Tape" 97) (.string "TheOneWithout$Tape" 102))) (by decide +kernel))
    | 5, 0, _, _ => exact Or.inr (hs (Cond.not (Cond.eq (.string "TheOneWithout$Tape" 73) (.string "TheOneWithout$Tape" 102))) (by decide +kernel))
    | 5, 1, _, _ => exact Or.inr (hs (Cond.not (Cond.eq (.string "TheOneWithout$Tape" 82) (.string "TheOneWithout$Tape" 102))) (by decide +kernel))
    | 5, 2, _, _ => exact Or.inr (hs (Cond.not (Cond.eq (.string "TheOneWithout$Tape" 87) (.string "TheOneWithout$Tape" 102))) (by decide +kernel))
    | 5, 3, _, _ => exact Or.inr (hs (Cond.not (Cond.eq (.string "TheOneWithout$Tape" 92) (.string "TheOneWithout$Tape" 102))) (by decide +kernel))
    | 5, 4, _, _ => exact Or.inr (hs (Cond.not (Cond.eq (.string "TheOneWithout$Tape" 97) (.string "TheOneWithout$Tape" 102))) (by decide +kernel))
    | 5, 5, _, _ => exact absurd rfl hne
    | n + 6, _, h, _ => exact absurd h (by omega)
    | _, n + 6, _, h => exact absurd h (by omega)
  obtain ⟨adK, adV, h1, h2⟩ := vk_Sof (args := #[Value.ref b]) (s := s) (N := 6) (tm := fun i => .string "TheOneWithout$Tape" (xks.getD i 0)) (len := xslen) (byt := xsbyt) (A := A) hN q1 q2 q3 q4 q5 q6 hA
  refine ⟨adK, adV, h1, h2, fun i hi => ?_⟩
  match i, hi with
    | 0, _ => exact x_eqS (hs (Cond.eq (.string "TheOneWithout$Tape" 73) (.string "TheOneWithoutModel" 249)) (by decide +kernel)) (h2 0 (by decide))
    | 1, _ => exact x_eqS (hs (Cond.eq (.string "TheOneWithout$Tape" 82) (.string "TheOneWithoutModel" 255)) (by decide +kernel)) (h2 1 (by decide))
    | 2, _ => exact x_eqS (hs (Cond.eq (.string "TheOneWithout$Tape" 87) (.string "TheOneWithoutModel" 260)) (by decide +kernel)) (h2 2 (by decide))
    | 3, _ => exact x_eqS (hs (Cond.eq (.string "TheOneWithout$Tape" 92) (.string "TheOneWithoutModel" 261)) (by decide +kernel)) (h2 3 (by decide))
    | 4, _ => exact x_eqS (hs (Cond.eq (.string "TheOneWithout$Tape" 97) (.string "TheOneWithoutModel" 263)) (by decide +kernel)) (h2 4 (by decide))
    | 5, _ => exact x_eqS (hs (Cond.eq (.string "TheOneWithout$Tape" 102) (.string "TheOneWithoutModel" 265)) (by decide +kernel)) (h2 5 (by decide))
    | n + 6, h => exact absurd h (by omega)
theorem x_rowA {s : State} {b : Nat} {A : Nat → Prop} (hs : ∀ w ∈ flatC (Jvm.Cond.and given_1 narrow_1), w.before #[Value.ref b] s = true) (hts : ∀ w ∈ lw_tbl, w.before #[Value.ref b] s = true) (hA : ∀ a : Nat, a < s.heap.size → ¬ A a) : ∃ t : Nat, va_Z "TheOneWithout$Tellers" "ABOVE" "[I" (.ref t) A s s.heap ∧ va_T .int t 6 (fun j => .int (xAB j)) A s s.heap := by
  have qe : ∀ j : Nat, j < 6 → (Term.elem (.static "TheOneWithout$Tellers" "ABOVE" "[I") (.int (Int32.ofNat j))).eval #[Value.ref b] s none [] s = some (.int (xAB j)) := by
    intro j hj
    match j, hj with
    | 0, _ => exact va_eqt (hs (Cond.eq (.elem (.static "TheOneWithout$Tellers" "ABOVE" "[I") (.int 0)) (.int (-1))) (by decide +kernel))
    | 1, _ => exact va_eqt (hs (Cond.eq (.elem (.static "TheOneWithout$Tellers" "ABOVE" "[I") (.int 1)) (.int (0))) (by decide +kernel))
    | 2, _ => exact va_eqt (hs (Cond.eq (.elem (.static "TheOneWithout$Tellers" "ABOVE" "[I") (.int 2)) (.int (0))) (by decide +kernel))
    | 3, _ => exact va_eqt (hs (Cond.eq (.elem (.static "TheOneWithout$Tellers" "ABOVE" "[I") (.int 3)) (.int (2))) (by decide +kernel))
    | 4, _ => exact va_eqt (hs (Cond.eq (.elem (.static "TheOneWithout$Tellers" "ABOVE" "[I") (.int 4)) (.int (3))) (by decide +kernel))
    | 5, _ => exact va_eqt (hs (Cond.eq (.elem (.static "TheOneWithout$Tellers" "ABOVE" "[I") (.int 5)) (.int (2))) (by decide +kernel))
    | n + 6, h => exact absurd h (by omega)
  obtain ⟨t, h1, h2⟩ := va_Tof (args := #[Value.ref b]) (s := s) (tm := (.static "TheOneWithout$Tellers" "ABOVE" "[I")) (ty := .int) (N := 6) (f := fun j => .int (xAB j)) (A := A) (by decide) (hs (Cond.arrayOf (.static "TheOneWithout$Tellers" "ABOVE" "[I") .int) (by decide +kernel)) (va_eqt (hs (Cond.eq (.length (.static "TheOneWithout$Tellers" "ABOVE" "[I")) (.int 6)) (by decide +kernel))) qe hA
  exact ⟨t, va_Zref (hts _ xl_A) (hts _ xn_A) h1 hA, h2⟩
theorem x_rowS {s : State} {b : Nat} {A : Nat → Prop} (hs : ∀ w ∈ flatC (Jvm.Cond.and given_1 narrow_1), w.before #[Value.ref b] s = true) (hts : ∀ w ∈ lw_tbl, w.before #[Value.ref b] s = true) (hA : ∀ a : Nat, a < s.heap.size → ¬ A a) : ∃ t : Nat, va_Z "TheOneWithout$Worlds" "SHIFTS" "[I" (.ref t) A s s.heap ∧ va_T .int t 6 (fun j => .int (xSF j)) A s s.heap := by
  have qe : ∀ j : Nat, j < 6 → (Term.elem (.static "TheOneWithout$Worlds" "SHIFTS" "[I") (.int (Int32.ofNat j))).eval #[Value.ref b] s none [] s = some (.int (xSF j)) := by
    intro j hj
    match j, hj with
    | 0, _ => exact va_eqt (hs (Cond.eq (.elem (.static "TheOneWithout$Worlds" "SHIFTS" "[I") (.int 0)) (.int (15))) (by decide +kernel))
    | 1, _ => exact va_eqt (hs (Cond.eq (.elem (.static "TheOneWithout$Worlds" "SHIFTS" "[I") (.int 1)) (.int (12))) (by decide +kernel))
    | 2, _ => exact va_eqt (hs (Cond.eq (.elem (.static "TheOneWithout$Worlds" "SHIFTS" "[I") (.int 2)) (.int (9))) (by decide +kernel))
    | 3, _ => exact va_eqt (hs (Cond.eq (.elem (.static "TheOneWithout$Worlds" "SHIFTS" "[I") (.int 3)) (.int (6))) (by decide +kernel))
    | 4, _ => exact va_eqt (hs (Cond.eq (.elem (.static "TheOneWithout$Worlds" "SHIFTS" "[I") (.int 4)) (.int (3))) (by decide +kernel))
    | 5, _ => exact va_eqt (hs (Cond.eq (.elem (.static "TheOneWithout$Worlds" "SHIFTS" "[I") (.int 5)) (.int (0))) (by decide +kernel))
    | n + 6, h => exact absurd h (by omega)
  obtain ⟨t, h1, h2⟩ := va_Tof (args := #[Value.ref b]) (s := s) (tm := (.static "TheOneWithout$Worlds" "SHIFTS" "[I")) (ty := .int) (N := 6) (f := fun j => .int (xSF j)) (A := A) (by decide) (hs (Cond.arrayOf (.static "TheOneWithout$Worlds" "SHIFTS" "[I") .int) (by decide +kernel)) (va_eqt (hs (Cond.eq (.length (.static "TheOneWithout$Worlds" "SHIFTS" "[I")) (.int 6)) (by decide +kernel))) qe hA
  exact ⟨t, va_Zref (hts _ xl_S) (hts _ xn_S) h1 hA, h2⟩
theorem x_cls {s : State} {args : Array Value} (hts : ∀ w ∈ lw_tbl, w.before args s = true) : ∃ G : xG, va_K G.1 vwCl (xtysOf G) s := by
  have h1 : ∀ c : Nat, ∃ q : ClassId × (Nat → Nat), c < 10 → u_Kn s (xcn c).1 (xcn c).2.1 (xcn c).2.2 q.1 q.2 := fun c => by
    by_cases hc : c < 10
    · obtain ⟨a, d, h⟩ := u_known (C := (xcn c).1) (T := (xcn c).2.1) (N := (xcn c).2.2) (n := (xcn c).2.2) hts (fun w hw => (List.mem_filter.mp (xuw c hc w hw)).1) (hts _ (x_inst c hc))
      exact ⟨(a, d), fun _ => h⟩
    · exact ⟨(0, fun _ => 0), fun h => absurd h hc⟩
  obtain ⟨g, hg⟩ := Classical.skolem.mp h1
  obtain ⟨cI, kI, mI, i1, i2, i3⟩ := Cond.arrayClass_spec (hts _ xi_aI)
  obtain ⟨cJ, kJ, mJ, j1, j2, j3⟩ := Cond.arrayClass_spec (hts _ xi_aJ)
  obtain ⟨mA, cA, kA, a0, a2, a3, a1⟩ := Cond.arrayOver_specA (hts _ xi_oI)
  obtain ⟨mB, cB, kB, b0, b2, b3, b1⟩ := Cond.arrayOver_specA (hts _ xi_oJ)
  refine ⟨((fun c => (g c).1, fun c => (g c).2), cI, cJ, cA, cB), fun c q hq => ?_, fun k q hq => ?_⟩
  · have hc : c < 10 := (List.getElem?_eq_some_iff.mp hq).1
    have : q = xcn c := by
      match c, hc, hq with
      | 0, _, hq => cases hq; rfl
      | 1, _, hq => cases hq; rfl
      | 2, _, hq => cases hq; rfl
      | 3, _, hq => cases hq; rfl
      | 4, _, hq => cases hq; rfl
      | 5, _, hq => cases hq; rfl
      | 6, _, hq => cases hq; rfl
      | 7, _, hq => cases hq; rfl
      | 8, _, hq => cases hq; rfl
      | 9, _, hq => cases hq; rfl
      | n + 10, h, _ => exact absurd h (by omega)
    rw [this]
    exact hg c hc
  · match k, hq with
    | 0, hq => cases hq; exact ⟨fun n z => ⟨(fun q hq => by cases hq), kI, i2, mI, i3⟩, i1⟩
    | 1, hq => cases hq; exact ⟨fun n z => ⟨(fun q hq => by cases hq), kJ, j2, mJ, j3⟩, j1⟩
    | 2, hq => cases hq; exact ⟨fun n z => ⟨(fun q hq => by cases hq), kA, a2, mA, a3⟩, a1⟩
    | 3, hq => cases hq; exact ⟨fun n z => ⟨(fun q hq => by cases hq), kB, b2, mB, b3⟩, b1⟩
    | n + 4, hq => simp [xtysOf] at hq
theorem xlow_new {xs : Nat → Int32} {L id : Nat} : ¬ xnew (xσ0 xs L) id := fun h => by
  have h1 : id < 9 ∨ (112 ≤ id ∧ id < 112) ∨ (158 ≤ id ∧ id < 158) := xalive_iff.mp h.2
  have := h.1
  omega
