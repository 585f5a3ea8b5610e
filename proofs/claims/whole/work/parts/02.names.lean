def va_AOA (t : FieldType) (U : State) : Prop := (Cond.arrayOver (.array t)).before #[] U = true
theorem va_AOA.use {t : FieldType} {A : Array Value} {U : State} (h : va_AOA t U) : (Cond.arrayOver (.array t)).before A U = true := h
/-! ===== BEGIN new T[n][m]: the outer array a place, the inner ones among the pooled ===== -/
/-- f, but v at every address of l -/
def vr_up {α : Type} (f : Nat → α) (l : List Nat) (v : α) : Nat → α := fun a => if a ∈ l then v else f a
theorem vr_up_in {α : Type} {f : Nat → α} {l : List Nat} {v : α} {a : Nat} (h : a ∈ l) : vr_up f l v a = v := if_pos h
theorem vr_up_ne {α : Type} {f : Nat → α} {l : List Nat} {v : α} {a : Nat} (h : a ∉ l) : vr_up f l v a = f a := if_neg h
theorem vr_rows {L l : List Nat} {f : Nat → va_E} {e : va_E} (h : ∀ a, a ∈ l → a ∉ L) : va_pl L f ++ l.map (fun a => (a, e)) = va_pl (L ++ l) (vr_up f l e) := by
  unfold va_pl
  rw [List.map_append]
  congr 1
  · apply List.map_congr_left
    intro a ha
    rw [vr_up_ne (fun q => h a q ha)]
  · apply List.map_congr_left
    intro a ha
    rw [vr_up_in ha]
theorem vr_lay {X rows : va_W} {x : Nat × va_E} {pl : va_W} {D : va_G} {cl : List vw_C} {H : Heap} (hP : va_P D cl (((X ++ pl) ++ [x]) ++ rows) H) : va_P D cl ((X ++ [x]) ++ (pl ++ rows)) H := by
  rw [List.append_assoc (X ++ pl)] at hP
  have h := va_P.swap hP
  rw [← List.append_assoc X] at h
  have h2 := va_P.swap h
  rw [List.append_assoc (X ++ [x])] at h2
  exact h2
theorem vr_layD {X rows : va_W} {x : Nat × va_E} {pl : va_W} {A : Nat → Prop} (hD : va_D A (((X ++ pl) ++ [x]) ++ rows)) : va_D A ((X ++ [x]) ++ (pl ++ rows)) := by
  rw [List.append_assoc (X ++ pl)] at hD
  have h := va_D.swap hD
  rw [← List.append_assoc X] at h
  have h2 := va_D.swap h
  rw [List.append_assoc (X ++ [x])] at h2
  exact h2
theorem vr_outer (c : ClassId) (N h0 : Nat) : ∀ i : Nat, Jvm.Free.Multi.outerC c N h0 i = arrV c N (fun j => va_rf (if j < i then some (h0 + 1 + j) else none))
  | 0 => by
    show ({ cls := c, slots := Array.replicate N .null, vm := .none } : Cell) = _
    rw [arrV_new]
    refine congrArg (arrV c N) (funext fun j => ?_)
    simp [va_rf]
  | i + 1 => by
    show (Jvm.Free.Multi.outerC c N h0 i).setSlot i (.ref (h0 + 1 + i)) = _
    rw [vr_outer c N h0 i, arrV_store]
    refine congrArg (arrV c N) (funext fun j => ?_)
    by_cases e : j = i
    · subst e
      simp [updV, va_rf]
    · by_cases h : j < i
      · simp [updV, e, h, Nat.lt_succ_of_lt h]
      · simp [updV, e, h, show ¬ j < i + 1 by omega]
section VGM
variable {p : Program} {l : Launch} {e : Env} {R : Room} {s : State} {m : MethodId} {args : Array Value} {below : List Frame} {meth : Method} {c : Code} {H : Heap} {locs : List Loc} {cells slots : Nat} {Q : State → Prop}
variable {cc : ByteArray} {pc : Nat} {ls : Array Slot} {rest : List Value} {D : va_G} {cl : List vw_C} {A : Nat → Prop} {a : Nat} {tys : List (ClassId × FieldType)} {ws : va_W} {H0 : Heap}
theorem va_mna {X : va_W} {L : List Nat} {f : Nat → va_E} {cc : ByteArray} (hexec : p.tables.exec = Jvm.exec) (hb : c.code = cc) {own : String} {index : Nat} {ty : FieldType} {cy : ClassId} (hown : s.vm.findClass own = some m.cls) (hclink : (Cond.classLink own index ("[" ++ (FieldType.array ty).toString)).before args s = true) (hover : va_AOA ty s) (harr : (Cond.arrayClass ty).before args s = true) (hcy : s.vm.findClass (FieldType.array ty).toString = some cy)
    (hK : va_K D cl tys s) (hP : va_P D cl (X ++ va_pl L f) H) (hD : va_D A (X ++ va_pl L f)) (hS : va_S A H0 H locs) (hA : ∀ q, H0.size ≤ q → A q) {n k : Int32} {N' K' : Nat} {z : vp_A} (hn : ¬ n < 0) (hk : ¬ k < 0) (hN : n.toNatClampNeg = N') (hM : k.toNatClampNeg = K')
    (hb1 : N' * 4 ≤ 536870912) (hb2 : K' * componentBytes ty ≤ 536870912) (hb3 : K' ≤ 536870912) (hdf : fits ty (defaultValue ty) = true) (hdd : (defaultValue ty).isDefault = true) (hcells : cells + (1 + N') ≤ R.cells) (hslots : slots + (N' + N' * K') ≤ R.slots) (hz : ∀ c : ClassId, Jvm.Free.Multi.innerC c K' (defaultValue ty) = vp_cell c z) (hdg : decode cc pc = .ok (.multianewarray index 2, 4))
    (kk : ∀ (q : Nat) (r : Nat → Nat) (cA : ClassId) (H1 : Heap), (∀ i j : Nat, i < N' → j < N' → r i = r j → i = j) → (∀ i : Nat, i < N' → r i ∉ L) → va_K D cl (tys ++ [(cA, .array ty)]) s →
      va_P D cl ((X ++ [(q, .inl (cA, N', .inr (.inr (.inr (.inr (fun i => if i < N' then some (r i) else none))))))]) ++ va_pl (L ++ (List.range N').map r) (vr_up f ((List.range N').map r) (.inl (cy, z)))) H1 → va_D A ((X ++ [(q, .inl (cA, N', .inr (.inr (.inr (.inr (fun i => if i < N' then some (r i) else none))))))]) ++ va_pl (L ++ (List.range N').map r) (vr_up f ((List.range N').map r) (.inl (cy, z)))) → va_S A H0 H1 locs →
      W p l e R s m args below meth c H1 locs (cells + 1 + N') (slots + N' + N' * K') Q (F0 m (pc + 4) ls (.ref q :: rest))) : W p l e R s m args below meth c H locs cells slots Q (F0 m pc ls (.int k :: .int n :: rest)) := by
  subst hN
  subst hM
  intro T hT Xs
  obtain ⟨vm₁, cA, comp, -, fA, fC, hO, -, X', step⟩ := Xs.multianewarray2F hexec hown hclink (va_AOA.use hover) harr (g := F0 m pc ls (.int k :: .int n :: rest)) rfl (by rw [hb]; exact hdg) rfl hn hk hb1 hb2 hb3 hdf hdd hcells hslots
  have ec : some cy = some comp := hcy.symm.trans fC
  cases ec
  generalize hF : Jvm.Free.Multi.fill (T.setVm vm₁) cA cy n.toNatClampNeg k.toNatClampNeg (defaultValue ty) n.toNatClampNeg = F at X' step
  have hTh : (T.setVm vm₁).heap = H := hT
  obtain ⟨f1, f2, -, -⟩ := Jvm.Free.Multi.fill_facts (T.setVm vm₁) cA cy n.toNatClampNeg k.toNatClampNeg (defaultValue ty) n.toNatClampNeg
  rw [hF, hTh] at f1 f2
  have hold : ∀ x : Nat, x < H.size → F.heap[x]? = H[x]? := fun x hx => by
    have := Jvm.Free.Multi.fill_old (T.setVm vm₁) cA cy n.toNatClampNeg k.toNatClampNeg (defaultValue ty) (a := x) (by rw [hTh]; exact hx) n.toNatClampNeg
    rw [hF, hTh] at this
    exact this
  have hrow : ∀ j : Nat, j < n.toNatClampNeg → F.heap[H.size + 1 + j]? = some (vp_cell cy z) := fun j hj => by
    have := Jvm.Free.Multi.fill_inner (T.setVm vm₁) cA cy n.toNatClampNeg k.toNatClampNeg (defaultValue ty) n.toNatClampNeg j hj
    rw [hF, hTh, hz] at this
    exact this
  have hout : Jvm.Free.Multi.outerC cA n.toNatClampNeg H.size n.toNatClampNeg = vp_cell cA (n.toNatClampNeg, .inr (.inr (.inr (.inr (fun i => if i < n.toNatClampNeg then some (H.size + 1 + i) else none))))) := by
    rw [vp_cell_q]
    exact vr_outer cA n.toNatClampNeg H.size n.toNatClampNeg
  rw [hout] at f2
  have hlt : ∀ a, a ∈ L → a < H.size := fun a ha => by
    obtain ⟨k9, hk9⟩ := va_pl_get (X := X) (f := f) ha
    exact (hP k9 _ hk9).lt
  have hnl : ∀ i : Nat, i < n.toNatClampNeg → H.size + 1 + i ∉ L := fun i _ h => by
    have := hlt _ h
    omega
  have hnm : ∀ a, a ∈ (List.range n.toNatClampNeg).map (fun i => H.size + 1 + i) → a ∉ L := fun a ha h => by
    obtain ⟨i, -, rfl⟩ := List.mem_map.mp ha
    have := hlt _ h
    omega
  have hP0 : va_P D cl (X ++ va_pl L f) F.heap := hP.kept (fun k9 x hx => hold x.1 ((hP k9 x hx).lt))
  have hP1 : va_P D cl ((X ++ va_pl L f) ++ [(H.size, .inl (cA, n.toNatClampNeg, .inr (.inr (.inr (.inr (fun i => if i < n.toNatClampNeg then some (H.size + 1 + i) else none))))))]) F.heap := hP0.app (fun k9 x hx => by
    have h0 : k9 < 1 := (List.getElem?_eq_some_iff.mp hx).1
    rw [show k9 = 0 by omega] at hx
    cases hx
    exact f2)
  have hP2 : va_P D cl (((X ++ va_pl L f) ++ [(H.size, .inl (cA, n.toNatClampNeg, .inr (.inr (.inr (.inr (fun i => if i < n.toNatClampNeg then some (H.size + 1 + i) else none))))))]) ++ ((List.range n.toNatClampNeg).map (fun i => H.size + 1 + i)).map (fun a => (a, .inl (cy, z)))) F.heap := hP1.app (fun k9 x hx => by
    obtain ⟨a, ha, rfl⟩ := List.mem_map.mp (List.mem_of_getElem? hx)
    obtain ⟨i, hi, rfl⟩ := List.mem_map.mp ha
    exact hrow i (List.mem_range.mp hi))
  have hD2 : va_D A (((X ++ va_pl L f) ++ [(H.size, .inl (cA, n.toNatClampNeg, .inr (.inr (.inr (.inr (fun i => if i < n.toNatClampNeg then some (H.size + 1 + i) else none))))))]) ++ ((List.range n.toNatClampNeg).map (fun i => H.size + 1 + i)).map (fun a => (a, .inl (cy, z)))) := by
    have hD1 := hD.push (e := .inl (cA, n.toNatClampNeg, .inr (.inr (.inr (.inr (fun i => if i < n.toNatClampNeg then some (H.size + 1 + i) else none)))))) hP rfl (hA _ hS.1)
    generalize hW1 : (X ++ va_pl L f) ++ [(H.size, .inl (cA, n.toNatClampNeg, .inr (.inr (.inr (.inr (fun i => if i < n.toNatClampNeg then some (H.size + 1 + i) else none))))))] = W1 at hD1 hP1 ⊢
    have hle : ∀ (k9 : Nat) (x : Nat × va_E), W1[k9]? = some x → x.1 ≤ H.size := fun k9 x hx => by
      rw [← hW1] at hx
      by_cases hl : k9 < (X ++ va_pl L f).length
      · rw [List.getElem?_append_left hl] at hx
        exact Nat.le_of_lt ((hP k9 x hx).lt)
      · rw [List.getElem?_append_right (by omega)] at hx
        have h0 : k9 - (X ++ va_pl L f).length < 1 := (List.getElem?_eq_some_iff.mp hx).1
        rw [show k9 - (X ++ va_pl L f).length = 0 by omega] at hx
        cases hx
        exact Nat.le_refl _
    have hr : ∀ (k9 : Nat) (x : Nat × va_E), (((List.range n.toNatClampNeg).map (fun i => H.size + 1 + i)).map (fun a => ((a, .inl (cy, z)) : Nat × va_E)))[k9]? = some x → x.1 = H.size + 1 + k9 := fun k9 x hx => by
      rw [List.getElem?_map, List.getElem?_map] at hx
      by_cases h9 : k9 < n.toNatClampNeg
      · rw [List.getElem?_range h9] at hx
        cases hx
        rfl
      · have hn0 : (List.range n.toNatClampNeg)[k9]? = none := List.getElem?_eq_none (by rw [List.length_range]; omega)
        rw [hn0] at hx
        cases hx
    refine ⟨fun i j x y hi hj hxy => ?_, fun k9 x hx => ?_⟩
    · by_cases h1 : i < W1.length <;> by_cases h2 : j < W1.length
      · rw [List.getElem?_append_left h1] at hi
        rw [List.getElem?_append_left h2] at hj
        exact hD1.1 i j x y hi hj hxy
      · rw [List.getElem?_append_left h1] at hi
        rw [List.getElem?_append_right (by omega)] at hj
        have := hle _ _ hi
        have := hr _ _ hj
        omega
      · rw [List.getElem?_append_right (by omega)] at hi
        rw [List.getElem?_append_left h2] at hj
        have := hle _ _ hj
        have := hr _ _ hi
        omega
      · rw [List.getElem?_append_right (by omega)] at hi hj
        have := hr _ _ hi
        have := hr _ _ hj
        omega
    · by_cases h1 : k9 < W1.length
      · rw [List.getElem?_append_left h1] at hx
        exact hD1.2 k9 x hx
      · rw [List.getElem?_append_right (by omega)] at hx
        have := hr _ _ hx
        exact hA _ (by have := hS.1; omega)
  have hAr : ArrOfT s cA (.array ty) := fun N9 z9 => by
    obtain ⟨-, k9, hk9, cm9, hkk9⟩ := (hO 0 0 0).1
    exact ⟨(fun q hq => by cases hq), k9, hk9, cm9, hkk9⟩
  have hK2 : va_K D cl (tys ++ [(cA, .array ty)]) s := ⟨hK.1, fun k9 x hx => by
    by_cases hl : k9 < tys.length
    · rw [List.getElem?_append_left hl] at hx
      exact hK.2 k9 x hx
    · rw [List.getElem?_append_right (by omega)] at hx
      have h0 : k9 - tys.length < 1 := (List.getElem?_eq_some_iff.mp hx).1
      rw [show k9 - tys.length = 0 by omega] at hx
      cases hx
      exact ⟨hAr, fA⟩⟩
  obtain ⟨t, a1, b1⟩ := kk H.size (fun i => H.size + 1 + i) cA F.heap (fun i j _ _ h => by have h9 : H.size + 1 + i = H.size + 1 + j := h; omega) hnl hK2 (by rw [← vr_rows hnm]; exact vr_lay hP2) (by rw [← vr_rows hnm]; exact vr_layD hD2) ⟨by rw [f1]; have := hS.1; omega, fun x h1 h2 => (hold x (Nat.lt_of_lt_of_le h1 hS.1)).trans (hS.2.1 x h1 h2), hS.2.2⟩ F rfl X'
  refine ⟨t, step t ?_, b1⟩
  have e : T.heap.size = H.size := by rw [hT]
  rw [e]
  exact a1
end VGM
/-! ===== END ===== -/

def RX0 : String := "TheOneWithout$Handings"
def TX0 : u_T := fun k => match k with
  | 0 => ("TheOneWithout$Handings", "tray", "LTheOneWithout$Tray;", true)
  | 1 => ("TheOneWithout$Handings", "worlds", "LTheOneWithout$Worlds;", true)
  | 2 => ("TheOneWithout$Handings", "weights", "[I", true)
  | 3 => ("TheOneWithout$Handings", "least", "[I", true)
  | 4 => ("TheOneWithout$Handings", "bestPlaces", "[I", true)
  | 5 => ("TheOneWithout$Handings", "holders", "[I", true)
  | 6 => ("TheOneWithout$Handings", "takes", "[I", true)
  | _ => ("TheOneWithout$Handings", "fewestSwaps", "I", false)
def tyX0 : Nat → FieldType := fun k => match k with
  | 0 => .object "TheOneWithout$Tray"
  | 1 => .object "TheOneWithout$Worlds"
  | 2 => .array .int
  | 3 => .array .int
  | 4 => .array .int
  | 5 => .array .int
  | 6 => .array .int
  | _ => .int
abbrev wsX00 : List Cond := u_ws RX0 TX0 8
theorem nmX0 : ∀ a, a < 8 → ∀ b, b < 8 → a ≠ b → (TX0 a).2.1 ≠ (TX0 b).2.1 := by decide +kernel
theorem tyX0_ok : ∀ k, k < 8 → parseFieldDescriptor (TX0 k).2.2.1 = some (tyX0 k) := by decide +kernel
abbrev cX0_init : ByteArray := prog_2_method_1_code
def yX0_init : MethodName := ⟨RX0, "<init>", "(LTheOneWithout$Tray;LTheOneWithout$Worlds;)V"⟩
abbrev cX0_wrongIn : ByteArray := prog_2_method_2_code
def yX0_wrongIn : MethodName := ⟨RX0, "wrongIn", "([I)I"⟩
abbrev cX0_wrongWorlds : ByteArray := prog_2_method_3_code
def yX0_wrongWorlds : MethodName := ⟨RX0, "wrongWorlds", "(II)I"⟩
abbrev cX0_suits : ByteArray := prog_2_method_4_code
def yX0_suits : MethodName := ⟨RX0, "suits", "(II)Z"⟩
abbrev cX0_meanOf : ByteArray := prog_2_method_5_code
def yX0_meanOf : MethodName := ⟨RX0, "meanOf", "([I)I"⟩
abbrev cX0_costInTruth : ByteArray := prog_2_method_6_code
def yX0_costInTruth : MethodName := ⟨RX0, "costInTruth", "([I)I"⟩
abbrev cX0_swapsOf : ByteArray := prog_2_method_7_code
def yX0_swapsOf : MethodName := ⟨RX0, "swapsOf", "([I)I"⟩
abbrev cX0_tryPlaces : ByteArray := prog_2_method_8_code
def yX0_tryPlaces : MethodName := ⟨RX0, "tryPlaces", "(II)V"⟩
abbrev cX0_tryPlace : ByteArray := prog_2_method_9_code
def yX0_tryPlace : MethodName := ⟨RX0, "tryPlace", "(III)V"⟩
abbrev cX0_roundsOfTakes : ByteArray := prog_2_method_10_code
def yX0_roundsOfTakes : MethodName := ⟨RX0, "roundsOfTakes", "()I"⟩
abbrev cX0_holderOfTaken : ByteArray := prog_2_method_11_code
def yX0_holderOfTaken : MethodName := ⟨RX0, "holderOfTaken", "(I)I"⟩
abbrev cX0_findBest : ByteArray := prog_2_method_12_code
def yX0_findBest : MethodName := ⟨RX0, "findBest", "()V"⟩
abbrev cX0_weighPlaces : ByteArray := prog_2_method_13_code
def yX0_weighPlaces : MethodName := ⟨RX0, "weighPlaces", "()V"⟩
abbrev cX0_firstBest : ByteArray := prog_2_method_14_code
def yX0_firstBest : MethodName := ⟨RX0, "firstBest", "(II)I"⟩
abbrev cX0_meanWith : ByteArray := prog_2_method_15_code
def yX0_meanWith : MethodName := ⟨RX0, "meanWith", "(III)I"⟩
abbrev cX0_leastMean : ByteArray := prog_2_method_16_code
def yX0_leastMean : MethodName := ⟨RX0, "leastMean", "()I"⟩
abbrev cX0_bestPlaceOf : ByteArray := prog_2_method_17_code
def yX0_bestPlaceOf : MethodName := ⟨RX0, "bestPlaceOf", "(I)I"⟩
abbrev cX0_guestWhoMindsMost : ByteArray := prog_2_method_18_code
def yX0_guestWhoMindsMost : MethodName := ⟨RX0, "guestWhoMindsMost", "()I"⟩
def RX1 : String := "TheOneWithout$Questions"
def TX1 : u_T := fun k => match k with
  | 0 => ("TheOneWithout$Questions", "tray", "LTheOneWithout$Tray;", true)
  | 1 => ("TheOneWithout$Questions", "worlds", "LTheOneWithout$Worlds;", true)
  | 2 => ("TheOneWithout$Questions", "tally", "LTheOneWithout$Tally;", true)
  | 3 => ("TheOneWithout$Questions", "likes", "[I", true)
  | 4 => ("TheOneWithout$Questions", "parts", "[I", true)
  | 5 => ("TheOneWithout$Questions", "questionCount", "I", false)
  | _ => ("TheOneWithout$Questions", "mostParts", "I", false)
def tyX1 : Nat → FieldType := fun k => match k with
  | 0 => .object "TheOneWithout$Tray"
  | 1 => .object "TheOneWithout$Worlds"
  | 2 => .object "TheOneWithout$Tally"
  | 3 => .array .int
  | 4 => .array .int
  | 5 => .int
  | _ => .int
abbrev wsX10 : List Cond := u_ws RX1 TX1 7
theorem nmX1 : ∀ a, a < 7 → ∀ b, b < 7 → a ≠ b → (TX1 a).2.1 ≠ (TX1 b).2.1 := by decide +kernel
theorem tyX1_ok : ∀ k, k < 7 → parseFieldDescriptor (TX1 k).2.2.1 = some (tyX1 k) := by decide +kernel
abbrev cX1_init : ByteArray := prog_3_method_1_code
def yX1_init : MethodName := ⟨RX1, "<init>", "(LTheOneWithout$Tray;LTheOneWithout$Worlds;)V"⟩
abbrev cX1_splitOf : ByteArray := prog_3_method_2_code
def yX1_splitOf : MethodName := ⟨RX1, "splitOf", "(II)I"⟩
abbrev cX1_worstOf : ByteArray := prog_3_method_3_code
def yX1_worstOf : MethodName := ⟨RX1, "worstOf", "(II)I"⟩
abbrev cX1_nextOf : ByteArray := prog_3_method_4_code
def yX1_nextOf : MethodName := ⟨RX1, "nextOf", "(I)I"⟩
abbrev cX1_placesThatTell : ByteArray := prog_3_method_5_code
def yX1_placesThatTell : MethodName := ⟨RX1, "placesThatTell", "()I"⟩
abbrev cX1_isToldBy : ByteArray := prog_3_method_6_code
def yX1_isToldBy : MethodName := ⟨RX1, "isToldBy", "(I)Z"⟩
abbrev cX1_mostAlike : ByteArray := prog_3_method_7_code
def yX1_mostAlike : MethodName := ⟨RX1, "mostAlike", "(I)I"⟩
abbrev cX1_findLikes : ByteArray := prog_3_method_8_code
def yX1_findLikes : MethodName := ⟨RX1, "findLikes", "(I)V"⟩
abbrev cX1_areAlike : ByteArray := prog_3_method_9_code
def yX1_areAlike : MethodName := ⟨RX1, "areAlike", "(III)Z"⟩
abbrev cX1_likeOf : ByteArray := prog_3_method_10_code
def yX1_likeOf : MethodName := ⟨RX1, "likeOf", "(I)I"⟩
abbrev cX1_fewestOf : ByteArray := prog_3_method_11_code
def yX1_fewestOf : MethodName := ⟨RX1, "fewestOf", "(I)I"⟩
abbrev cX1_canEverTell : ByteArray := prog_3_method_12_code
def yX1_canEverTell : MethodName := ⟨RX1, "canEverTell", "(I)Z"⟩
abbrev cX1_findParts : ByteArray := prog_3_method_13_code
def yX1_findParts : MethodName := ⟨RX1, "findParts", "(I)V"⟩
abbrev cX1_findPartsAt : ByteArray := prog_3_method_14_code
def yX1_findPartsAt : MethodName := ⟨RX1, "findPartsAt", "(I)V"⟩
abbrev cX1_canTell : ByteArray := prog_3_method_15_code
def yX1_canTell : MethodName := ⟨RX1, "canTell", "(II)Z"⟩
abbrev cX1_mostTold : ByteArray := prog_3_method_16_code
def yX1_mostTold : MethodName := ⟨RX1, "mostTold", "(I)I"⟩
abbrev cX1_canTellBy : ByteArray := prog_3_method_17_code
def yX1_canTellBy : MethodName := ⟨RX1, "canTellBy", "(III)Z"⟩
def RX2 : String := "TheOneWithout$Shelves"
def TX2 : u_T := fun k => match k with
  | 0 => ("TheOneWithout$Shelves", "things", "[I", true)
  | 1 => ("TheOneWithout$Shelves", "sizes", "[I", true)
  | _ => ("TheOneWithout$Shelves", "elements", "[J", true)
def tyX2 : Nat → FieldType := fun k => match k with
  | 0 => .array .int
  | 1 => .array .int
  | _ => .array .long
abbrev wsX20 : List Cond := u_ws RX2 TX2 3
theorem nmX2 : ∀ a, a < 3 → ∀ b, b < 3 → a ≠ b → (TX2 a).2.1 ≠ (TX2 b).2.1 := by decide +kernel
theorem tyX2_ok : ∀ k, k < 3 → parseFieldDescriptor (TX2 k).2.2.1 = some (tyX2 k) := by decide +kernel
abbrev cX2_init : ByteArray := prog_4_method_1_code
def yX2_init : MethodName := ⟨RX2, "<init>", "()V"⟩
abbrev cX2_isShelf : ByteArray := prog_4_method_2_code
def yX2_isShelf : MethodName := ⟨RX2, "isShelf", "(I)Z"⟩
abbrev cX2_isSort : ByteArray := prog_4_method_3_code
def yX2_isSort : MethodName := ⟨RX2, "isSort", "(I)Z"⟩
abbrev cX2_isSize : ByteArray := prog_4_method_4_code
def yX2_isSize : MethodName := ⟨RX2, "isSize", "(I)Z"⟩
abbrev cX2_thingOf : ByteArray := prog_4_method_5_code
def yX2_thingOf : MethodName := ⟨RX2, "thingOf", "(I)I"⟩
abbrev cX2_hasRow : ByteArray := prog_4_method_6_code
def yX2_hasRow : MethodName := ⟨RX2, "hasRow", "(I)Z"⟩
abbrev cX2_faultOfRow : ByteArray := prog_4_method_7_code
def yX2_faultOfRow : MethodName := ⟨RX2, "faultOfRow", "(I)I"⟩
abbrev cX2_faultOfPair : ByteArray := prog_4_method_8_code
def yX2_faultOfPair : MethodName := ⟨RX2, "faultOfPair", "(II)I"⟩
abbrev cX2_hasElement : ByteArray := prog_4_method_9_code
def yX2_hasElement : MethodName := ⟨RX2, "hasElement", "(II)Z"⟩
abbrev cX2_hasElements : ByteArray := prog_4_method_10_code
def yX2_hasElements : MethodName := ⟨RX2, "hasElements", "(III)Z"⟩
abbrev cX2_putRow : ByteArray := prog_4_method_11_code
def yX2_putRow : MethodName := ⟨RX2, "putRow", "(III)V"⟩
abbrev cX2_putTeller : ByteArray := prog_4_method_12_code
def yX2_putTeller : MethodName := ⟨RX2, "putTeller", "(II)V"⟩
abbrev cX2_putElement : ByteArray := prog_4_method_13_code
def yX2_putElement : MethodName := ⟨RX2, "putElement", "(IIJ)V"⟩
abbrev cX2_cutTo : ByteArray := prog_4_method_14_code
def yX2_cutTo : MethodName := ⟨RX2, "cutTo", "(IJ)J"⟩
abbrev cX2_elementOf : ByteArray := prog_4_method_15_code
def yX2_elementOf : MethodName := ⟨RX2, "elementOf", "(II)J"⟩
abbrev cX2_copyElements : ByteArray := prog_4_method_16_code
def yX2_copyElements : MethodName := ⟨RX2, "copyElements", "(IIIII)V"⟩
abbrev cX2_dropTellersFrom : ByteArray := prog_4_method_17_code
def yX2_dropTellersFrom : MethodName := ⟨RX2, "dropTellersFrom", "(I)V"⟩
abbrev cX2_howManyHold : ByteArray := prog_4_method_18_code
def yX2_howManyHold : MethodName := ⟨RX2, "howManyHold", "()I"⟩
def RX3 : String := "TheOneWithout$Tally"
def TX3 : u_T := fun k => match k with
  | 0 => ("TheOneWithout$Tally", "keys", "[I", true)
  | 1 => ("TheOneWithout$Tally", "counts", "[I", true)
  | 2 => ("TheOneWithout$Tally", "rounds", "[I", true)
  | _ => ("TheOneWithout$Tally", "round", "I", false)
def tyX3 : Nat → FieldType := fun k => match k with
  | 0 => .array .int
  | 1 => .array .int
  | 2 => .array .int
  | _ => .int
abbrev wsX30 : List Cond := u_ws RX3 TX3 4
theorem nmX3 : ∀ a, a < 4 → ∀ b, b < 4 → a ≠ b → (TX3 a).2.1 ≠ (TX3 b).2.1 := by decide +kernel
theorem tyX3_ok : ∀ k, k < 4 → parseFieldDescriptor (TX3 k).2.2.1 = some (tyX3 k) := by decide +kernel
abbrev cX3_init : ByteArray := prog_5_method_1_code
def yX3_init : MethodName := ⟨RX3, "<init>", "()V"⟩
abbrev cX3_start : ByteArray := prog_5_method_2_code
def yX3_start : MethodName := ⟨RX3, "start", "()V"⟩
abbrev cX3_add : ByteArray := prog_5_method_3_code
def yX3_add : MethodName := ⟨RX3, "add", "(I)I"⟩
def RX4 : String := "TheOneWithout$Tape"
def TX4 : u_T := fun k => match k with
  | 0 => ("TheOneWithout$Tape", "size", "I", false)
  | 1 => ("TheOneWithout$Tape", "fault", "I", false)
  | 2 => ("TheOneWithout$Tape", "tray", "LTheOneWithout$Tray;", true)
  | 3 => ("TheOneWithout$Tape", "worlds", "LTheOneWithout$Worlds;", true)
  | 4 => ("TheOneWithout$Tape", "bytes", "[I", true)
  | 5 => ("TheOneWithout$Tape", "sorts", "[I", true)
  | 6 => ("TheOneWithout$Tape", "at", "I", false)
  | 7 => ("TheOneWithout$Tape", "token", "I", false)
  | 8 => ("TheOneWithout$Tape", "start", "I", false)
  | _ => ("TheOneWithout$Tape", "value", "I", false)
def tyX4 : Nat → FieldType := fun k => match k with
  | 0 => .int
  | 1 => .int
  | 2 => .object "TheOneWithout$Tray"
  | 3 => .object "TheOneWithout$Worlds"
  | 4 => .array .int
  | 5 => .array .int
  | 6 => .int
  | 7 => .int
  | 8 => .int
  | _ => .int
abbrev wsX40 : List Cond := u_ws RX4 TX4 10
theorem nmX4 : ∀ a, a < 10 → ∀ b, b < 10 → a ≠ b → (TX4 a).2.1 ≠ (TX4 b).2.1 := by decide +kernel
theorem tyX4_ok : ∀ k, k < 10 → parseFieldDescriptor (TX4 k).2.2.1 = some (tyX4 k) := by decide +kernel
abbrev cX4_init : ByteArray := prog_6_method_1_code
def yX4_init : MethodName := ⟨RX4, "<init>", "(LTheOneWithout$Tray;LTheOneWithout$Worlds;)V"⟩
abbrev cX4_put : ByteArray := prog_6_method_2_code
def yX4_put : MethodName := ⟨RX4, "put", "(I)Z"⟩
abbrev cX4_readStatements : ByteArray := prog_6_method_3_code
def yX4_readStatements : MethodName := ⟨RX4, "readStatements", "()I"⟩
abbrev cX4_byteAt : ByteArray := prog_6_method_4_code
def yX4_byteAt : MethodName := ⟨RX4, "byteAt", "(I)I"⟩
abbrev cX4_isLetter : ByteArray := prog_6_method_5_code
def yX4_isLetter : MethodName := ⟨RX4, "isLetter", "(I)Z"⟩
abbrev cX4_isDigit : ByteArray := prog_6_method_6_code
def yX4_isDigit : MethodName := ⟨RX4, "isDigit", "(I)Z"⟩
abbrev cX4_readToken : ByteArray := prog_6_method_7_code
def yX4_readToken : MethodName := ⟨RX4, "readToken", "()V"⟩
abbrev cX4_isToken : ByteArray := prog_6_method_8_code
def yX4_isToken : MethodName := ⟨RX4, "isToken", "(Ljava/lang/String;)Z"⟩
abbrev cX4_failAt : ByteArray := prog_6_method_9_code
def yX4_failAt : MethodName := ⟨RX4, "failAt", "(I)Z"⟩
abbrev cX4_readStatement : ByteArray := prog_6_method_10_code
def yX4_readStatement : MethodName := ⟨RX4, "readStatement", "()Z"⟩
abbrev cX4_readNumber : ByteArray := prog_6_method_11_code
def yX4_readNumber : MethodName := ⟨RX4, "readNumber", "(II)I"⟩
abbrev cX4_readCups : ByteArray := prog_6_method_12_code
def yX4_readCups : MethodName := ⟨RX4, "readCups", "()Z"⟩
abbrev cX4_readPour : ByteArray := prog_6_method_13_code
def yX4_readPour : MethodName := ⟨RX4, "readPour", "()Z"⟩
abbrev cX4_readLaw : ByteArray := prog_6_method_14_code
def yX4_readLaw : MethodName := ⟨RX4, "readLaw", "()Z"⟩
abbrev cX4_readSort : ByteArray := prog_6_method_15_code
def yX4_readSort : MethodName := ⟨RX4, "readSort", "()Z"⟩
abbrev cX4_readGuest : ByteArray := prog_6_method_16_code
def yX4_readGuest : MethodName := ⟨RX4, "readGuest", "()Z"⟩
abbrev cX4_readSign : ByteArray := prog_6_method_17_code
def yX4_readSign : MethodName := ⟨RX4, "readSign", "()Z"⟩
def RX5 : String := "TheOneWithout$Tellers"
def TX5 : u_T := fun k => match k with
  | 0 => ("TheOneWithout$Tellers", "tray", "LTheOneWithout$Tray;", true)
  | 1 => ("TheOneWithout$Tellers", "worlds", "LTheOneWithout$Worlds;", true)
  | 2 => ("TheOneWithout$Tellers", "questions", "LTheOneWithout$Questions;", true)
  | _ => ("TheOneWithout$Tellers", "handings", "LTheOneWithout$Handings;", true)
def tyX5 : Nat → FieldType := fun k => match k with
  | 0 => .object "TheOneWithout$Tray"
  | 1 => .object "TheOneWithout$Worlds"
  | 2 => .object "TheOneWithout$Questions"
  | _ => .object "TheOneWithout$Handings"
abbrev wsX50 : List Cond := u_ws RX5 TX5 4
theorem nmX5 : ∀ a, a < 4 → ∀ b, b < 4 → a ≠ b → (TX5 a).2.1 ≠ (TX5 b).2.1 := by decide +kernel
theorem tyX5_ok : ∀ k, k < 4 → parseFieldDescriptor (TX5 k).2.2.1 = some (tyX5 k) := by decide +kernel
abbrev cX5_init : ByteArray := prog_7_method_1_code
def yX5_init : MethodName := ⟨RX5, "<init>", "(LTheOneWithout$Tray;LTheOneWithout$Worlds;LTheOneWithout$Questions;LTheOneWithout$Handings;)V"⟩
abbrev cX5_isKind : ByteArray := prog_7_method_2_code
def yX5_isKind : MethodName := ⟨RX5, "isKind", "(I)Z"⟩
abbrev cX5_isUnder : ByteArray := prog_7_method_3_code
def yX5_isUnder : MethodName := ⟨RX5, "isUnder", "(II)Z"⟩
abbrev cX5_sayingOf : ByteArray := prog_7_method_4_code
def yX5_sayingOf : MethodName := ⟨RX5, "sayingOf", "(I)I"⟩
abbrev cX5_firstUnknown : ByteArray := prog_7_method_5_code
def yX5_firstUnknown : MethodName := ⟨RX5, "firstUnknown", "(I)I"⟩
abbrev cX5_mostShades : ByteArray := prog_7_method_6_code
def yX5_mostShades : MethodName := ⟨RX5, "mostShades", "()I"⟩
abbrev cX5_lookOrSip : ByteArray := prog_7_method_7_code
def yX5_lookOrSip : MethodName := ⟨RX5, "lookOrSip", "()I"⟩
abbrev cX5_sipOfWhoMindsMost : ByteArray := prog_7_method_8_code
def yX5_sipOfWhoMindsMost : MethodName := ⟨RX5, "sipOfWhoMindsMost", "()I"⟩
def RX6 : String := "TheOneWithout$Tray"
def TX6 : u_T := fun k => match k with
  | 0 => ("TheOneWithout$Tray", "cups", "I", false)
  | 1 => ("TheOneWithout$Tray", "law", "I", false)
  | 2 => ("TheOneWithout$Tray", "seed", "I", false)
  | 3 => ("TheOneWithout$Tray", "signCount", "I", false)
  | 4 => ("TheOneWithout$Tray", "tellerCount", "I", false)
  | 5 => ("TheOneWithout$Tray", "worldsAreOld", "Z", false)
  | 6 => ("TheOneWithout$Tray", "possibleAreOld", "Z", false)
  | 7 => ("TheOneWithout$Tray", "poured", "[I", true)
  | 8 => ("TheOneWithout$Tray", "stood", "[I", true)
  | 9 => ("TheOneWithout$Tray", "numbers", "[I", true)
  | 10 => ("TheOneWithout$Tray", "wants", "[I", true)
  | 11 => ("TheOneWithout$Tray", "minds", "[I", true)
  | 12 => ("TheOneWithout$Tray", "signs", "[I", true)
  | 13 => ("TheOneWithout$Tray", "tellerKinds", "[I", true)
  | _ => ("TheOneWithout$Tray", "tellerNumbers", "[I", true)
def tyX6 : Nat → FieldType := fun k => match k with
  | 0 => .int
  | 1 => .int
  | 2 => .int
  | 3 => .int
  | 4 => .int
  | 5 => .boolean
  | 6 => .boolean
  | 7 => .array .int
  | 8 => .array .int
  | 9 => .array .int
  | 10 => .array .int
  | 11 => .array .int
  | 12 => .array .int
  | 13 => .array .int
  | _ => .array .int
abbrev wsX60 : List Cond := u_ws RX6 TX6 15
theorem nmX6 : ∀ a, a < 15 → ∀ b, b < 15 → a ≠ b → (TX6 a).2.1 ≠ (TX6 b).2.1 := by decide +kernel
theorem tyX6_ok : ∀ k, k < 15 → parseFieldDescriptor (TX6 k).2.2.1 = some (tyX6 k) := by decide +kernel
abbrev cX6_init : ByteArray := prog_8_method_1_code
def yX6_init : MethodName := ⟨RX6, "<init>", "()V"⟩
abbrev cX6_takeAllOf : ByteArray := prog_8_method_2_code
def yX6_takeAllOf : MethodName := ⟨RX6, "takeAllOf", "(LTheOneWithout$Tray;)V"⟩
abbrev cX6_hasPlace : ByteArray := prog_8_method_3_code
def yX6_hasPlace : MethodName := ⟨RX6, "hasPlace", "(I)Z"⟩
abbrev cX6_hasTeller : ByteArray := prog_8_method_4_code
def yX6_hasTeller : MethodName := ⟨RX6, "hasTeller", "(I)Z"⟩
abbrev cX6_kindOf : ByteArray := prog_8_method_5_code
def yX6_kindOf : MethodName := ⟨RX6, "kindOf", "(I)I"⟩
abbrev cX6_tellerNumberOf : ByteArray := prog_8_method_6_code
def yX6_tellerNumberOf : MethodName := ⟨RX6, "tellerNumberOf", "(I)I"⟩
abbrev cX6_addTeller : ByteArray := prog_8_method_7_code
def yX6_addTeller : MethodName := ⟨RX6, "addTeller", "(II)I"⟩
abbrev cX6_layCups : ByteArray := prog_8_method_8_code
def yX6_layCups : MethodName := ⟨RX6, "layCups", "(I)V"⟩
abbrev cX6_pourRow : ByteArray := prog_8_method_9_code
def yX6_pourRow : MethodName := ⟨RX6, "pourRow", "([I)V"⟩
abbrev cX6_setLaw : ByteArray := prog_8_method_10_code
def yX6_setLaw : MethodName := ⟨RX6, "setLaw", "(I)V"⟩
abbrev cX6_setTruth : ByteArray := prog_8_method_11_code
def yX6_setTruth : MethodName := ⟨RX6, "setTruth", "(I)V"⟩
abbrev cX6_setNumber : ByteArray := prog_8_method_12_code
def yX6_setNumber : MethodName := ⟨RX6, "setNumber", "(III)V"⟩
abbrev cX6_setGuest : ByteArray := prog_8_method_13_code
def yX6_setGuest : MethodName := ⟨RX6, "setGuest", "(III)V"⟩
abbrev cX6_wantOf : ByteArray := prog_8_method_14_code
def yX6_wantOf : MethodName := ⟨RX6, "wantOf", "(I)I"⟩
abbrev cX6_mindOf : ByteArray := prog_8_method_15_code
def yX6_mindOf : MethodName := ⟨RX6, "mindOf", "(I)I"⟩
abbrev cX6_truthAt : ByteArray := prog_8_method_16_code
def yX6_truthAt : MethodName := ⟨RX6, "truthAt", "(I)I"⟩
abbrev cX6_numberOf : ByteArray := prog_8_method_17_code
def yX6_numberOf : MethodName := ⟨RX6, "numberOf", "(II)I"⟩
abbrev cX6_numberInTruth : ByteArray := prog_8_method_18_code
def yX6_numberInTruth : MethodName := ⟨RX6, "numberInTruth", "(II)I"⟩
abbrev cX6_placeOfSign : ByteArray := prog_8_method_19_code
def yX6_placeOfSign : MethodName := ⟨RX6, "placeOfSign", "(I)I"⟩
abbrev cX6_knows : ByteArray := prog_8_method_20_code
def yX6_knows : MethodName := ⟨RX6, "knows", "(II)Z"⟩
abbrev cX6_learn : ByteArray := prog_8_method_21_code
def yX6_learn : MethodName := ⟨RX6, "learn", "(III)Z"⟩
abbrev cX6_dropSigns : ByteArray := prog_8_method_22_code
def yX6_dropSigns : MethodName := ⟨RX6, "dropSigns", "()V"⟩
abbrev cX6_sortsWithSign : ByteArray := prog_8_method_23_code
def yX6_sortsWithSign : MethodName := ⟨RX6, "sortsWithSign", "(I)I"⟩
abbrev cX6_unlikePoured : ByteArray := prog_8_method_24_code
def yX6_unlikePoured : MethodName := ⟨RX6, "unlikePoured", "()I"⟩
abbrev cX6_howManyPoured : ByteArray := prog_8_method_25_code
def yX6_howManyPoured : MethodName := ⟨RX6, "howManyPoured", "(I)I"⟩
abbrev cX6_pouredAndTurned : ByteArray := prog_8_method_26_code
def yX6_pouredAndTurned : MethodName := ⟨RX6, "pouredAndTurned", "(II)I"⟩
abbrev cX6_turnsToTruth : ByteArray := prog_8_method_27_code
def yX6_turnsToTruth : MethodName := ⟨RX6, "turnsToTruth", "()I"⟩
abbrev cX6_isTurnedSo : ByteArray := prog_8_method_28_code
def yX6_isTurnedSo : MethodName := ⟨RX6, "isTurnedSo", "(I)Z"⟩
abbrev cX6_draw : ByteArray := prog_8_method_29_code
def yX6_draw : MethodName := ⟨RX6, "draw", "(I)I"⟩
abbrev cX6_signFor : ByteArray := prog_8_method_30_code
def yX6_signFor : MethodName := ⟨RX6, "signFor", "(III)I"⟩
def RX7 : String := "TheOneWithout$Worlds"
def TX7 : u_T := fun k => match k with
  | 0 => ("TheOneWithout$Worlds", "allCount", "I", false)
  | 1 => ("TheOneWithout$Worlds", "possibleCount", "I", false)
  | 2 => ("TheOneWithout$Worlds", "tray", "LTheOneWithout$Tray;", true)
  | 3 => ("TheOneWithout$Worlds", "all", "[I", true)
  | 4 => ("TheOneWithout$Worlds", "possible", "[I", true)
  | 5 => ("TheOneWithout$Worlds", "many", "[I", true)
  | 6 => ("TheOneWithout$Worlds", "mixed", "[I", true)
  | _ => ("TheOneWithout$Worlds", "allowed", "[I", true)
def tyX7 : Nat → FieldType := fun k => match k with
  | 0 => .int
  | 1 => .int
  | 2 => .object "TheOneWithout$Tray"
  | 3 => .array .int
  | 4 => .array .int
  | 5 => .array .int
  | 6 => .array .int
  | _ => .array .int
abbrev wsX70 : List Cond := u_ws RX7 TX7 8
theorem nmX7 : ∀ a, a < 8 → ∀ b, b < 8 → a ≠ b → (TX7 a).2.1 ≠ (TX7 b).2.1 := by decide +kernel
theorem tyX7_ok : ∀ k, k < 8 → parseFieldDescriptor (TX7 k).2.2.1 = some (tyX7 k) := by decide +kernel
abbrev cX7_init : ByteArray := prog_9_method_1_code
def yX7_init : MethodName := ⟨RX7, "<init>", "(LTheOneWithout$Tray;)V"⟩
abbrev cX7_sortAt : ByteArray := prog_9_method_2_code
def yX7_sortAt : MethodName := ⟨RX7, "sortAt", "(II)I"⟩
abbrev cX7_putAt : ByteArray := prog_9_method_3_code
def yX7_putAt : MethodName := ⟨RX7, "putAt", "(II)I"⟩
abbrev cX7_worldIn : ByteArray := prog_9_method_4_code
def yX7_worldIn : MethodName := ⟨RX7, "worldIn", "([II)I"⟩
abbrev cX7_refresh : ByteArray := prog_9_method_5_code
def yX7_refresh : MethodName := ⟨RX7, "refresh", "()V"⟩
abbrev cX7_findMixed : ByteArray := prog_9_method_6_code
def yX7_findMixed : MethodName := ⟨RX7, "findMixed", "()V"⟩
abbrev cX7_stepMixed : ByteArray := prog_9_method_7_code
def yX7_stepMixed : MethodName := ⟨RX7, "stepMixed", "(I)Z"⟩
abbrev cX7_findTurned : ByteArray := prog_9_method_8_code
def yX7_findTurned : MethodName := ⟨RX7, "findTurned", "(I)V"⟩
abbrev cX7_insertWorld : ByteArray := prog_9_method_9_code
def yX7_insertWorld : MethodName := ⟨RX7, "insertWorld", "(I)V"⟩
abbrev cX7_findPossible : ByteArray := prog_9_method_10_code
def yX7_findPossible : MethodName := ⟨RX7, "findPossible", "()V"⟩
abbrev cX7_isAllowed : ByteArray := prog_9_method_11_code
def yX7_isAllowed : MethodName := ⟨RX7, "isAllowed", "(I)Z"⟩
abbrev cX7_takePossible : ByteArray := prog_9_method_12_code
def yX7_takePossible : MethodName := ⟨RX7, "takePossible", "(I)V"⟩
abbrev cX7_worldOf : ByteArray := prog_9_method_13_code
def yX7_worldOf : MethodName := ⟨RX7, "worldOf", "(I)I"⟩
abbrev cX7_possibleOf : ByteArray := prog_9_method_14_code
def yX7_possibleOf : MethodName := ⟨RX7, "possibleOf", "(I)I"⟩
abbrev cX7_isWorld : ByteArray := prog_9_method_15_code
def yX7_isWorld : MethodName := ⟨RX7, "isWorld", "(I)Z"⟩
abbrev cX7_howManyStand : ByteArray := prog_9_method_16_code
def yX7_howManyStand : MethodName := ⟨RX7, "howManyStand", "(II)I"⟩
abbrev cX7_howManyHave : ByteArray := prog_9_method_17_code
def yX7_howManyHave : MethodName := ⟨RX7, "howManyHave", "(III)I"⟩
abbrev cX7_sortsAt : ByteArray := prog_9_method_18_code
def yX7_sortsAt : MethodName := ⟨RX7, "sortsAt", "(I)I"⟩
abbrev cX7_likeliestAt : ByteArray := prog_9_method_19_code
def yX7_likeliestAt : MethodName := ⟨RX7, "likeliestAt", "(I)I"⟩
abbrev cX7_isKnown : ByteArray := prog_9_method_20_code
def yX7_isKnown : MethodName := ⟨RX7, "isKnown", "(I)Z"⟩
abbrev cX7_knownPlaces : ByteArray := prog_9_method_21_code
def yX7_knownPlaces : MethodName := ⟨RX7, "knownPlaces", "()I"⟩
abbrev cX7_oddAt : ByteArray := prog_9_method_22_code
def yX7_oddAt : MethodName := ⟨RX7, "oddAt", "(I)I"⟩
def RX8 : String := "TheOneWithout"
def TX8 : u_T := fun k => match k with
  | 0 => ("TheOneWithout", "tray", "LTheOneWithout$Tray;", true)
  | 1 => ("TheOneWithout", "kept", "LTheOneWithout$Tray;", true)
  | 2 => ("TheOneWithout", "ahead", "LTheOneWithout$Tray;", true)
  | 3 => ("TheOneWithout", "worlds", "LTheOneWithout$Worlds;", true)
  | 4 => ("TheOneWithout", "questions", "LTheOneWithout$Questions;", true)
  | 5 => ("TheOneWithout", "handings", "LTheOneWithout$Handings;", true)
  | 6 => ("TheOneWithout", "tellers", "LTheOneWithout$Tellers;", true)
  | 7 => ("TheOneWithout", "shelves", "LTheOneWithout$Shelves;", true)
  | 8 => ("TheOneWithout", "tape", "LTheOneWithout$Tape;", true)
  | 9 => ("TheOneWithout", "told", "[I", true)
  | 10 => ("TheOneWithout", "refusals", "[I", true)
  | _ => ("TheOneWithout", "isKept", "Z", false)
def tyX8 : Nat → FieldType := fun k => match k with
  | 0 => .object "TheOneWithout$Tray"
  | 1 => .object "TheOneWithout$Tray"
  | 2 => .object "TheOneWithout$Tray"
  | 3 => .object "TheOneWithout$Worlds"
  | 4 => .object "TheOneWithout$Questions"
  | 5 => .object "TheOneWithout$Handings"
  | 6 => .object "TheOneWithout$Tellers"
  | 7 => .object "TheOneWithout$Shelves"
  | 8 => .object "TheOneWithout$Tape"
  | 9 => .array .int
  | 10 => .array .int
  | _ => .boolean
abbrev wsX80 : List Cond := u_ws RX8 TX8 12
theorem nmX8 : ∀ a, a < 12 → ∀ b, b < 12 → a ≠ b → (TX8 a).2.1 ≠ (TX8 b).2.1 := by decide +kernel
theorem tyX8_ok : ∀ k, k < 12 → parseFieldDescriptor (TX8 k).2.2.1 = some (tyX8 k) := by decide +kernel
abbrev cX8_init : ByteArray := prog_1_method_1_code
def yX8_init : MethodName := ⟨RX8, "<init>", "()V"⟩
abbrev cX8_row : ByteArray := prog_1_method_2_code
def yX8_row : MethodName := ⟨RX8, "row", "(III)I"⟩
abbrev cX8_set : ByteArray := prog_1_method_3_code
def yX8_set : MethodName := ⟨RX8, "set", "(IIJ)I"⟩
abbrev cX8_copy : ByteArray := prog_1_method_4_code
def yX8_copy : MethodName := ⟨RX8, "copy", "(IIIII)I"⟩
abbrev cX8_element : ByteArray := prog_1_method_5_code
def yX8_element : MethodName := ⟨RX8, "element", "(II)J"⟩
abbrev cX8_holds : ByteArray := prog_1_method_6_code
def yX8_holds : MethodName := ⟨RX8, "holds", "(I)I"⟩
abbrev cX8_show : ByteArray := prog_1_method_7_code
def yX8_show : MethodName := ⟨RX8, "show", "(II)I"⟩
abbrev cX8_says : ByteArray := prog_1_method_8_code
def yX8_says : MethodName := ⟨RX8, "says", "(II)I"⟩
abbrev cX8_cups : ByteArray := prog_1_method_9_code
def yX8_cups : MethodName := ⟨RX8, "cups", "(I)I"⟩
abbrev cX8_pour : ByteArray := prog_1_method_10_code
def yX8_pour : MethodName := ⟨RX8, "pour", "(I)I"⟩
abbrev cX8_law : ByteArray := prog_1_method_11_code
def yX8_law : MethodName := ⟨RX8, "law", "(I)I"⟩
abbrev cX8_sort : ByteArray := prog_1_method_12_code
def yX8_sort : MethodName := ⟨RX8, "sort", "(III)I"⟩
abbrev cX8_guest : ByteArray := prog_1_method_13_code
def yX8_guest : MethodName := ⟨RX8, "guest", "(III)I"⟩
abbrev cX8_teller : ByteArray := prog_1_method_14_code
def yX8_teller : MethodName := ⟨RX8, "teller", "(II)I"⟩
abbrev cX8_sign : ByteArray := prog_1_method_15_code
def yX8_sign : MethodName := ⟨RX8, "sign", "(III)I"⟩
abbrev cX8_forget : ByteArray := prog_1_method_16_code
def yX8_forget : MethodName := ⟨RX8, "forget", "()I"⟩
abbrev cX8_feed : ByteArray := prog_1_method_17_code
def yX8_feed : MethodName := ⟨RX8, "feed", "(I)I"⟩
abbrev cX8_wipe : ByteArray := prog_1_method_18_code
def yX8_wipe : MethodName := ⟨RX8, "wipe", "()I"⟩
abbrev cX8_stair : ByteArray := prog_1_method_19_code
def yX8_stair : MethodName := ⟨RX8, "stair", "()I"⟩
abbrev cX8_worlds : ByteArray := prog_1_method_20_code
def yX8_worlds : MethodName := ⟨RX8, "worlds", "(I)I"⟩
abbrev cX8_world : ByteArray := prog_1_method_21_code
def yX8_world : MethodName := ⟨RX8, "world", "(II)I"⟩
abbrev cX8_sorts : ByteArray := prog_1_method_22_code
def yX8_sorts : MethodName := ⟨RX8, "sorts", "(I)I"⟩
abbrev cX8_likely : ByteArray := prog_1_method_23_code
def yX8_likely : MethodName := ⟨RX8, "likely", "(II)I"⟩
abbrev cX8_known : ByteArray := prog_1_method_24_code
def yX8_known : MethodName := ⟨RX8, "known", "()I"⟩
abbrev cX8_split : ByteArray := prog_1_method_25_code
def yX8_split : MethodName := ⟨RX8, "split", "(III)I"⟩
abbrev cX8_next : ByteArray := prog_1_method_26_code
def yX8_next : MethodName := ⟨RX8, "next", "(I)I"⟩
abbrev cX8_fewest : ByteArray := prog_1_method_27_code
def yX8_fewest : MethodName := ⟨RX8, "fewest", "(I)I"⟩
abbrev cX8_apart : ByteArray := prog_1_method_28_code
def yX8_apart : MethodName := ⟨RX8, "apart", "()I"⟩
abbrev cX8_marks : ByteArray := prog_1_method_29_code
def yX8_marks : MethodName := ⟨RX8, "marks", "(I)I"⟩
abbrev cX8_judge : ByteArray := prog_1_method_30_code
def yX8_judge : MethodName := ⟨RX8, "judge", "(I)I"⟩
abbrev cX8_handing : ByteArray := prog_1_method_31_code
def yX8_handing : MethodName := ⟨RX8, "handing", "(II)I"⟩
abbrev cX8_best : ByteArray := prog_1_method_32_code
def yX8_best : MethodName := ⟨RX8, "best", "(I)I"⟩
abbrev cX8_mind : ByteArray := prog_1_method_33_code
def yX8_mind : MethodName := ⟨RX8, "mind", "(II)I"⟩
abbrev cX8_tells : ByteArray := prog_1_method_34_code
def yX8_tells : MethodName := ⟨RX8, "tells", "(I)I"⟩
abbrev cX8_odd : ByteArray := prog_1_method_35_code
def yX8_odd : MethodName := ⟨RX8, "odd", "(I)I"⟩
abbrev cX8_turned : ByteArray := prog_1_method_36_code
def yX8_turned : MethodName := ⟨RX8, "turned", "()I"⟩
abbrev cX8_look : ByteArray := prog_1_method_37_code
def yX8_look : MethodName := ⟨RX8, "look", "(II)I"⟩
abbrev cX8_tries : ByteArray := prog_1_method_38_code
def yX8_tries : MethodName := ⟨RX8, "tries", "(I)I"⟩
abbrev cX8_stairs : ByteArray := prog_1_method_39_code
def yX8_stairs : MethodName := ⟨RX8, "stairs", "()I"⟩
abbrev cX8_truth : ByteArray := prog_1_method_40_code
def yX8_truth : MethodName := ⟨RX8, "truth", "(I)I"⟩
abbrev cX8_stands : ByteArray := prog_1_method_41_code
def yX8_stands : MethodName := ⟨RX8, "stands", "(I)I"⟩
abbrev cX8_seed : ByteArray := prog_1_method_42_code
def yX8_seed : MethodName := ⟨RX8, "seed", "(I)I"⟩
abbrev cX8_image : ByteArray := prog_1_method_43_code
def yX8_image : MethodName := ⟨RX8, "image", "()I"⟩
abbrev cX8_back : ByteArray := prog_1_method_44_code
def yX8_back : MethodName := ⟨RX8, "back", "()I"⟩
abbrev cX8_status : ByteArray := prog_1_method_45_code
def yX8_status : MethodName := ⟨RX8, "status", "(I)I"⟩
abbrev cX8_refuse : ByteArray := prog_1_method_46_code
def yX8_refuse : MethodName := ⟨RX8, "refuse", "(I)I"⟩
abbrev cX8_faultOfTold : ByteArray := prog_1_method_47_code
def yX8_faultOfTold : MethodName := ⟨RX8, "faultOfTold", "(I)I"⟩
abbrev cX8_faultOfSorts : ByteArray := prog_1_method_48_code
def yX8_faultOfSorts : MethodName := ⟨RX8, "faultOfSorts", "(I)I"⟩
abbrev cX8_isSort : ByteArray := prog_1_method_49_code
def yX8_isSort : MethodName := ⟨RX8, "isSort", "(I)Z"⟩
abbrev cX8_isNumber : ByteArray := prog_1_method_50_code
def yX8_isNumber : MethodName := ⟨RX8, "isNumber", "(I)Z"⟩
abbrev cX8_isLook : ByteArray := prog_1_method_51_code
def yX8_isLook : MethodName := ⟨RX8, "isLook", "(I)Z"⟩
abbrev cX8_isSignKind : ByteArray := prog_1_method_52_code
def yX8_isSignKind : MethodName := ⟨RX8, "isSignKind", "(I)Z"⟩
abbrev cX8_isEither : ByteArray := prog_1_method_53_code
def yX8_isEither : MethodName := ⟨RX8, "isEither", "(I)Z"⟩
abbrev cX8_canBeSeen : ByteArray := prog_1_method_54_code
def yX8_canBeSeen : MethodName := ⟨RX8, "canBeSeen", "(II)Z"⟩
def RX9 : String := "TheOneWithoutModel"
def TX9 : u_T := fun k => match k with
  | 0 => ("TheOneWithoutModel", "shelf", "[I", true)
  | 1 => ("TheOneWithoutModel", "rowSort", "[I", true)
  | 2 => ("TheOneWithoutModel", "rowSize", "[I", true)
  | 3 => ("TheOneWithoutModel", "rows", "[[J", true)
  | 4 => ("TheOneWithoutModel", "moved", "[J", true)
  | 5 => ("TheOneWithoutModel", "shown", "[I", true)
  | 6 => ("TheOneWithoutModel", "tape", "[I", true)
  | 7 => ("TheOneWithoutModel", "tapeSize", "I", false)
  | 8 => ("TheOneWithoutModel", "refused", "[I", true)
  | 9 => ("TheOneWithoutModel", "n", "I", false)
  | 10 => ("TheOneWithoutModel", "law", "I", false)
  | 11 => ("TheOneWithoutModel", "poured", "[I", true)
  | 12 => ("TheOneWithoutModel", "truth", "[I", true)
  | 13 => ("TheOneWithoutModel", "mark", "[[I", true)
  | 14 => ("TheOneWithoutModel", "wants", "[I", true)
  | 15 => ("TheOneWithoutModel", "minds", "[I", true)
  | 16 => ("TheOneWithoutModel", "known", "[[I", true)
  | 17 => ("TheOneWithoutModel", "tellers", "I", false)
  | 18 => ("TheOneWithoutModel", "kind", "[I", true)
  | 19 => ("TheOneWithoutModel", "by", "[I", true)
  | 20 => ("TheOneWithoutModel", "seed", "I", false)
  | 21 => ("TheOneWithoutModel", "kept", "LTheOneWithoutModel;", false)
  | 22 => ("TheOneWithoutModel", "tried", "LTheOneWithoutModel;", false)
  | 23 => ("TheOneWithoutModel", "at", "I", false)
  | 24 => ("TheOneWithoutModel", "token", "I", false)
  | 25 => ("TheOneWithoutModel", "from", "I", false)
  | 26 => ("TheOneWithoutModel", "figures", "I", false)
  | 27 => ("TheOneWithoutModel", "fault", "I", false)
  | 28 => ("TheOneWithoutModel", "told", "[I", true)
  | 29 => ("TheOneWithoutModel", "toldRow", "[J", true)
  | 30 => ("TheOneWithoutModel", "statements", "I", false)
  | 31 => ("TheOneWithoutModel", "worlds", "[I", true)
  | 32 => ("TheOneWithoutModel", "worldMany", "I", false)
  | 33 => ("TheOneWithoutModel", "now", "[I", true)
  | 34 => ("TheOneWithoutModel", "left", "[I", true)
  | 35 => ("TheOneWithoutModel", "possible", "[I", true)
  | 36 => ("TheOneWithoutModel", "many", "I", false)
  | 37 => ("TheOneWithoutModel", "handed", "[I", true)
  | 38 => ("TheOneWithoutModel", "bestHanded", "[I", true)
  | 39 => ("TheOneWithoutModel", "bestMean", "I", false)
  | 40 => ("TheOneWithoutModel", "other", "[I", true)
  | _ => ("TheOneWithoutModel", "fewestSwaps", "I", false)
def tyX9 : Nat → FieldType := fun k => match k with
  | 0 => .array .int
  | 1 => .array .int
  | 2 => .array .int
  | 3 => .array (.array .long)
  | 4 => .array .long
  | 5 => .array .int
  | 6 => .array .int
  | 7 => .int
  | 8 => .array .int
  | 9 => .int
  | 10 => .int
  | 11 => .array .int
  | 12 => .array .int
  | 13 => .array (.array .int)
  | 14 => .array .int
  | 15 => .array .int
  | 16 => .array (.array .int)
  | 17 => .int
  | 18 => .array .int
  | 19 => .array .int
  | 20 => .int
  | 21 => .object "TheOneWithoutModel"
  | 22 => .object "TheOneWithoutModel"
  | 23 => .int
  | 24 => .int
  | 25 => .int
  | 26 => .int
  | 27 => .int
  | 28 => .array .int
  | 29 => .array .long
  | 30 => .int
  | 31 => .array .int
  | 32 => .int
  | 33 => .array .int
  | 34 => .array .int
  | 35 => .array .int
  | 36 => .int
  | 37 => .array .int
  | 38 => .array .int
  | 39 => .int
  | 40 => .array .int
  | _ => .int
abbrev wsX90 : List Cond := u_ws RX9 TX9 42
theorem nmX9 : ∀ a, a < 42 → ∀ b, b < 42 → a ≠ b → (TX9 a).2.1 ≠ (TX9 b).2.1 := by decide +kernel
theorem tyX9_ok : ∀ k, k < 42 → parseFieldDescriptor (TX9 k).2.2.1 = some (tyX9 k) := by decide +kernel
abbrev cX9_init : ByteArray := prog_11_method_1_code
def yX9_init : MethodName := ⟨RX9, "<init>", "()V"⟩
abbrev cX9_refuse : ByteArray := prog_11_method_2_code
def yX9_refuse : MethodName := ⟨RX9, "refuse", "(I)I"⟩
abbrev cX9_in : ByteArray := prog_11_method_3_code
def yX9_in : MethodName := ⟨RX9, "in", "(JJJ)Z"⟩
abbrev cX9_isPlace : ByteArray := prog_11_method_4_code
def yX9_isPlace : MethodName := ⟨RX9, "isPlace", "(J)Z"⟩
abbrev cX9_isTeller : ByteArray := prog_11_method_5_code
def yX9_isTeller : MethodName := ⟨RX9, "isTeller", "(I)Z"⟩
abbrev cX9_has : ByteArray := prog_11_method_6_code
def yX9_has : MethodName := ⟨RX9, "has", "(II)Z"⟩
abbrev cX9_bits : ByteArray := prog_11_method_7_code
def yX9_bits : MethodName := ⟨RX9, "bits", "(I)I"⟩
abbrev cX9_row : ByteArray := prog_11_method_8_code
def yX9_row : MethodName := ⟨RX9, "row", "(III)I"⟩
abbrev cX9_fit : ByteArray := prog_11_method_9_code
def yX9_fit : MethodName := ⟨RX9, "fit", "(IJ)J"⟩
abbrev cX9_noRow : ByteArray := prog_11_method_10_code
def yX9_noRow : MethodName := ⟨RX9, "noRow", "(I)I"⟩
abbrev cX9_set : ByteArray := prog_11_method_11_code
def yX9_set : MethodName := ⟨RX9, "set", "(IIJ)I"⟩
abbrev cX9_copy : ByteArray := prog_11_method_12_code
def yX9_copy : MethodName := ⟨RX9, "copy", "(IIIII)I"⟩
abbrev cX9_element : ByteArray := prog_11_method_13_code
def yX9_element : MethodName := ⟨RX9, "element", "(II)J"⟩
abbrev cX9_holds : ByteArray := prog_11_method_14_code
def yX9_holds : MethodName := ⟨RX9, "holds", "(I)I"⟩
abbrev cX9_show : ByteArray := prog_11_method_15_code
def yX9_show : MethodName := ⟨RX9, "show", "(II)I"⟩
abbrev cX9_isUnder : ByteArray := prog_11_method_16_code
def yX9_isUnder : MethodName := ⟨RX9, "isUnder", "(II)Z"⟩
abbrev cX9_says : ByteArray := prog_11_method_17_code
def yX9_says : MethodName := ⟨RX9, "says", "(II)I"⟩
abbrev cX9_forgets : ByteArray := prog_11_method_18_code
def yX9_forgets : MethodName := ⟨RX9, "forgets", "()V"⟩
abbrev cX9_signsMany : ByteArray := prog_11_method_19_code
def yX9_signsMany : MethodName := ⟨RX9, "signsMany", "()I"⟩
abbrev cX9_becomeCups : ByteArray := prog_11_method_20_code
def yX9_becomeCups : MethodName := ⟨RX9, "becomeCups", "(I)V"⟩
abbrev cX9_cups : ByteArray := prog_11_method_21_code
def yX9_cups : MethodName := ⟨RX9, "cups", "(I)I"⟩
abbrev cX9_noCups : ByteArray := prog_11_method_22_code
def yX9_noCups : MethodName := ⟨RX9, "noCups", "(I)I"⟩
abbrev cX9_areSorts : ByteArray := prog_11_method_23_code
def yX9_areSorts : MethodName := ⟨RX9, "areSorts", "([J)Z"⟩
abbrev cX9_pours : ByteArray := prog_11_method_24_code
def yX9_pours : MethodName := ⟨RX9, "pours", "([J)V"⟩
abbrev cX9_pour : ByteArray := prog_11_method_25_code
def yX9_pour : MethodName := ⟨RX9, "pour", "(I)I"⟩
abbrev cX9_law : ByteArray := prog_11_method_26_code
def yX9_law : MethodName := ⟨RX9, "law", "(I)I"⟩
abbrev cX9_sort : ByteArray := prog_11_method_27_code
def yX9_sort : MethodName := ⟨RX9, "sort", "(III)I"⟩
abbrev cX9_guest : ByteArray := prog_11_method_28_code
def yX9_guest : MethodName := ⟨RX9, "guest", "(III)I"⟩
abbrev cX9_addTeller : ByteArray := prog_11_method_29_code
def yX9_addTeller : MethodName := ⟨RX9, "addTeller", "(II)V"⟩
abbrev cX9_teller : ByteArray := prog_11_method_30_code
def yX9_teller : MethodName := ⟨RX9, "teller", "(II)I"⟩
abbrev cX9_mayBe : ByteArray := prog_11_method_31_code
def yX9_mayBe : MethodName := ⟨RX9, "mayBe", "(II)Z"⟩
abbrev cX9_isSeen : ByteArray := prog_11_method_32_code
def yX9_isSeen : MethodName := ⟨RX9, "isSeen", "(III)Z"⟩
abbrev cX9_sign : ByteArray := prog_11_method_33_code
def yX9_sign : MethodName := ⟨RX9, "sign", "(III)I"⟩
abbrev cX9_forget : ByteArray := prog_11_method_34_code
def yX9_forget : MethodName := ⟨RX9, "forget", "()I"⟩
abbrev cX9_feed : ByteArray := prog_11_method_35_code
def yX9_feed : MethodName := ⟨RX9, "feed", "(I)I"⟩
abbrev cX9_wipe : ByteArray := prog_11_method_36_code
def yX9_wipe : MethodName := ⟨RX9, "wipe", "()I"⟩
abbrev cX9_isLetter : ByteArray := prog_11_method_37_code
def yX9_isLetter : MethodName := ⟨RX9, "isLetter", "(I)Z"⟩
abbrev cX9_isDigit : ByteArray := prog_11_method_38_code
def yX9_isDigit : MethodName := ⟨RX9, "isDigit", "(I)Z"⟩
abbrev cX9_look : ByteArray := prog_11_method_39_code
def yX9_look : MethodName := ⟨RX9, "look", "()V"⟩
abbrev cX9_wrong : ByteArray := prog_11_method_40_code
def yX9_wrong : MethodName := ⟨RX9, "wrong", "()Z"⟩
abbrev cX9_isWord : ByteArray := prog_11_method_41_code
def yX9_isWord : MethodName := ⟨RX9, "isWord", "(Ljava/lang/String;)Z"⟩
abbrev cX9_number : ByteArray := prog_11_method_42_code
def yX9_number : MethodName := ⟨RX9, "number", "(III)Z"⟩
abbrev cX9_tells : ByteArray := prog_11_method_43_code
def yX9_tells : MethodName := ⟨RX9, "tells", "(II)Z"⟩
abbrev cX9_pourTold : ByteArray := prog_11_method_44_code
def yX9_pourTold : MethodName := ⟨RX9, "pourTold", "()Z"⟩
abbrev cX9_signTold : ByteArray := prog_11_method_45_code
def yX9_signTold : MethodName := ⟨RX9, "signTold", "()Z"⟩
abbrev cX9_statement : ByteArray := prog_11_method_46_code
def yX9_statement : MethodName := ⟨RX9, "statement", "()Z"⟩
abbrev cX9_readAll : ByteArray := prog_11_method_47_code
def yX9_readAll : MethodName := ⟨RX9, "readAll", "()Z"⟩
abbrev cX9_fresh : ByteArray := prog_11_method_48_code
def yX9_fresh : MethodName := ⟨RX9, "fresh", "()LTheOneWithoutModel;"⟩
abbrev cX9_stair : ByteArray := prog_11_method_49_code
def yX9_stair : MethodName := ⟨RX9, "stair", "()I"⟩
abbrev cX9_sortAt : ByteArray := prog_11_method_50_code
def yX9_sortAt : MethodName := ⟨RX9, "sortAt", "(II)I"⟩
abbrev cX9_seekWorlds : ByteArray := prog_11_method_51_code
def yX9_seekWorlds : MethodName := ⟨RX9, "seekWorlds", "(I)V"⟩
abbrev cX9_keepNow : ByteArray := prog_11_method_52_code
def yX9_keepNow : MethodName := ⟨RX9, "keepNow", "()V"⟩
abbrev cX9_against : ByteArray := prog_11_method_53_code
def yX9_against : MethodName := ⟨RX9, "against", "(I)I"⟩
abbrev cX9_turnNow : ByteArray := prog_11_method_54_code
def yX9_turnNow : MethodName := ⟨RX9, "turnNow", "(I)V"⟩
abbrev cX9_putNow : ByteArray := prog_11_method_55_code
def yX9_putNow : MethodName := ⟨RX9, "putNow", "()V"⟩
abbrev cX9_findWorlds : ByteArray := prog_11_method_56_code
def yX9_findWorlds : MethodName := ⟨RX9, "findWorlds", "()V"⟩
abbrev cX9_numberAt : ByteArray := prog_11_method_57_code
def yX9_numberAt : MethodName := ⟨RX9, "numberAt", "(III)I"⟩
abbrev cX9_hasSigns : ByteArray := prog_11_method_58_code
def yX9_hasSigns : MethodName := ⟨RX9, "hasSigns", "(I)Z"⟩
abbrev cX9_findPossible : ByteArray := prog_11_method_59_code
def yX9_findPossible : MethodName := ⟨RX9, "findPossible", "()V"⟩
abbrev cX9_worlds : ByteArray := prog_11_method_60_code
def yX9_worlds : MethodName := ⟨RX9, "worlds", "(I)I"⟩
abbrev cX9_world : ByteArray := prog_11_method_61_code
def yX9_world : MethodName := ⟨RX9, "world", "(II)I"⟩
abbrev cX9_sortsAt : ByteArray := prog_11_method_62_code
def yX9_sortsAt : MethodName := ⟨RX9, "sortsAt", "(I)I"⟩
abbrev cX9_sorts : ByteArray := prog_11_method_63_code
def yX9_sorts : MethodName := ⟨RX9, "sorts", "(I)I"⟩
abbrev cX9_likely : ByteArray := prog_11_method_64_code
def yX9_likely : MethodName := ⟨RX9, "likely", "(II)I"⟩
abbrev cX9_isKnown : ByteArray := prog_11_method_65_code
def yX9_isKnown : MethodName := ⟨RX9, "isKnown", "(I)Z"⟩
abbrev cX9_known : ByteArray := prog_11_method_66_code
def yX9_known : MethodName := ⟨RX9, "known", "()I"⟩
abbrev cX9_splitOf : ByteArray := prog_11_method_67_code
def yX9_splitOf : MethodName := ⟨RX9, "splitOf", "(II)I"⟩
abbrev cX9_worstOf : ByteArray := prog_11_method_68_code
def yX9_worstOf : MethodName := ⟨RX9, "worstOf", "(II)I"⟩
abbrev cX9_split : ByteArray := prog_11_method_69_code
def yX9_split : MethodName := ⟨RX9, "split", "(III)I"⟩
abbrev cX9_nextOf : ByteArray := prog_11_method_70_code
def yX9_nextOf : MethodName := ⟨RX9, "nextOf", "(I)I"⟩
abbrev cX9_next : ByteArray := prog_11_method_71_code
def yX9_next : MethodName := ⟨RX9, "next", "(I)I"⟩
abbrev cX9_withNumber : ByteArray := prog_11_method_72_code
def yX9_withNumber : MethodName := ⟨RX9, "withNumber", "(IIII)I"⟩
abbrev cX9_canTell : ByteArray := prog_11_method_73_code
def yX9_canTell : MethodName := ⟨RX9, "canTell", "(III)Z"⟩
abbrev cX9_partsTell : ByteArray := prog_11_method_74_code
def yX9_partsTell : MethodName := ⟨RX9, "partsTell", "(IIIII)Z"⟩
abbrev cX9_areAlike : ByteArray := prog_11_method_75_code
def yX9_areAlike : MethodName := ⟨RX9, "areAlike", "(III)Z"⟩
abbrev cX9_canNever : ByteArray := prog_11_method_76_code
def yX9_canNever : MethodName := ⟨RX9, "canNever", "(I)Z"⟩
abbrev cX9_fewest : ByteArray := prog_11_method_77_code
def yX9_fewest : MethodName := ⟨RX9, "fewest", "(I)I"⟩
abbrev cX9_tellsApart : ByteArray := prog_11_method_78_code
def yX9_tellsApart : MethodName := ⟨RX9, "tellsApart", "(I)Z"⟩
abbrev cX9_apart : ByteArray := prog_11_method_79_code
def yX9_apart : MethodName := ⟨RX9, "apart", "()I"⟩
abbrev cX9_marks : ByteArray := prog_11_method_80_code
def yX9_marks : MethodName := ⟨RX9, "marks", "(I)I"⟩
abbrev cX9_isWrong : ByteArray := prog_11_method_81_code
def yX9_isWrong : MethodName := ⟨RX9, "isWrong", "(II)Z"⟩
abbrev cX9_mindOf : ByteArray := prog_11_method_82_code
def yX9_mindOf : MethodName := ⟨RX9, "mindOf", "(II)I"⟩
abbrev cX9_meanOf : ByteArray := prog_11_method_83_code
def yX9_meanOf : MethodName := ⟨RX9, "meanOf", "([I)I"⟩
abbrev cX9_seekBest : ByteArray := prog_11_method_84_code
def yX9_seekBest : MethodName := ⟨RX9, "seekBest", "(III)V"⟩
abbrev cX9_findBest : ByteArray := prog_11_method_85_code
def yX9_findBest : MethodName := ⟨RX9, "findBest", "()V"⟩
abbrev cX9_wrongIn : ByteArray := prog_11_method_86_code
def yX9_wrongIn : MethodName := ⟨RX9, "wrongIn", "([J)I"⟩
abbrev cX9_judge : ByteArray := prog_11_method_87_code
def yX9_judge : MethodName := ⟨RX9, "judge", "(I)I"⟩
abbrev cX9_swapsTo : ByteArray := prog_11_method_88_code
def yX9_swapsTo : MethodName := ⟨RX9, "swapsTo", "()I"⟩
abbrev cX9_whoHas : ByteArray := prog_11_method_89_code
def yX9_whoHas : MethodName := ⟨RX9, "whoHas", "(I)I"⟩
abbrev cX9_seekSwaps : ByteArray := prog_11_method_90_code
def yX9_seekSwaps : MethodName := ⟨RX9, "seekSwaps", "(II)V"⟩
abbrev cX9_handing : ByteArray := prog_11_method_91_code
def yX9_handing : MethodName := ⟨RX9, "handing", "(II)I"⟩
abbrev cX9_best : ByteArray := prog_11_method_92_code
def yX9_best : MethodName := ⟨RX9, "best", "(I)I"⟩
abbrev cX9_mind : ByteArray := prog_11_method_93_code
def yX9_mind : MethodName := ⟨RX9, "mind", "(II)I"⟩
abbrev cX9_firstUnknown : ByteArray := prog_11_method_94_code
def yX9_firstUnknown : MethodName := ⟨RX9, "firstUnknown", "()I"⟩
abbrev cX9_turnerSays : ByteArray := prog_11_method_95_code
def yX9_turnerSays : MethodName := ⟨RX9, "turnerSays", "()I"⟩
abbrev cX9_handerSays : ByteArray := prog_11_method_96_code
def yX9_handerSays : MethodName := ⟨RX9, "handerSays", "()I"⟩
abbrev cX9_toldBy : ByteArray := prog_11_method_97_code
def yX9_toldBy : MethodName := ⟨RX9, "toldBy", "(I)I"⟩
abbrev cX9_tells_ : ByteArray := prog_11_method_98_code
def yX9_tells_ : MethodName := ⟨RX9, "tells", "(I)I"⟩
abbrev cX9_odd : ByteArray := prog_11_method_99_code
def yX9_odd : MethodName := ⟨RX9, "odd", "(I)I"⟩
abbrev cX9_turned : ByteArray := prog_11_method_100_code
def yX9_turned : MethodName := ⟨RX9, "turned", "()I"⟩
abbrev cX9_looks : ByteArray := prog_11_method_101_code
def yX9_looks : MethodName := ⟨RX9, "looks", "(II)I"⟩
abbrev cX9_look_ : ByteArray := prog_11_method_102_code
def yX9_look_ : MethodName := ⟨RX9, "look", "(II)I"⟩
abbrev cX9_tries : ByteArray := prog_11_method_103_code
def yX9_tries : MethodName := ⟨RX9, "tries", "(I)I"⟩
abbrev cX9_below : ByteArray := prog_11_method_104_code
def yX9_below : MethodName := ⟨RX9, "below", "(I)I"⟩
abbrev cX9_stairs : ByteArray := prog_11_method_105_code
def yX9_stairs : MethodName := ⟨RX9, "stairs", "()I"⟩
abbrev cX9_truth : ByteArray := prog_11_method_106_code
def yX9_truth : MethodName := ⟨RX9, "truth", "(I)I"⟩
abbrev cX9_stands : ByteArray := prog_11_method_107_code
def yX9_stands : MethodName := ⟨RX9, "stands", "(I)I"⟩
abbrev cX9_seed : ByteArray := prog_11_method_108_code
def yX9_seed : MethodName := ⟨RX9, "seed", "(I)I"⟩
abbrev cX9_copied : ByteArray := prog_11_method_109_code
def yX9_copied : MethodName := ⟨RX9, "copied", "([I[I)V"⟩
abbrev cX9_takeFrom : ByteArray := prog_11_method_110_code
def yX9_takeFrom : MethodName := ⟨RX9, "takeFrom", "(LTheOneWithoutModel;)V"⟩
abbrev cX9_image : ByteArray := prog_11_method_111_code
def yX9_image : MethodName := ⟨RX9, "image", "()I"⟩
abbrev cX9_back : ByteArray := prog_11_method_112_code
def yX9_back : MethodName := ⟨RX9, "back", "()I"⟩
abbrev cX9_status : ByteArray := prog_11_method_113_code
def yX9_status : MethodName := ⟨RX9, "status", "(I)I"⟩
def RJ6 : String := "java/lang/Integer"
def TJ6 : u_T := fun k => match k with
  | _ => ("", "", "", false)
def tyJ6 : Nat → FieldType := fun k => match k with
  | _ => .int
abbrev wsJ60 : List Cond := u_ws RJ6 TJ6 0
theorem nmJ6 : ∀ a, a < 0 → ∀ b, b < 0 → a ≠ b → (TJ6 a).2.1 ≠ (TJ6 b).2.1 := by decide +kernel
theorem tyJ6_ok : ∀ k, k < 0 → parseFieldDescriptor (TJ6 k).2.2.1 = some (tyJ6 k) := by decide +kernel
abbrev cJ6_bitCount_0f7a4 : ByteArray := prog_12_method_49_code
def yJ6_bitCount_0f7a4 : MethodName := ⟨RJ6, "bitCount", "(I)I"⟩
def RJ9 : String := "java/lang/Math"
def TJ9 : u_T := fun k => match k with
  | _ => ("", "", "", false)
def tyJ9 : Nat → FieldType := fun k => match k with
  | _ => .int
abbrev wsJ90 : List Cond := u_ws RJ9 TJ9 0
theorem nmJ9 : ∀ a, a < 0 → ∀ b, b < 0 → a ≠ b → (TJ9 a).2.1 ≠ (TJ9 b).2.1 := by decide +kernel
theorem tyJ9_ok : ∀ k, k < 0 → parseFieldDescriptor (TJ9 k).2.2.1 = some (tyJ9 k) := by decide +kernel
abbrev cJ9_max_7cf53 : ByteArray := prog_13_method_65_code
def yJ9_max_7cf53 : MethodName := ⟨RJ9, "max", "(II)I"⟩
abbrev cJ9_min_7cf53 : ByteArray := prog_13_method_69_code
def yJ9_min_7cf53 : MethodName := ⟨RJ9, "min", "(II)I"⟩
def RJ0 : String := "java/lang/String"
def TJ0 : u_T := fun k => match k with
  | _ => ("", "", "", false)
def tyJ0 : Nat → FieldType := fun k => match k with
  | _ => .int
abbrev wsJ00 : List Cond := u_ws RJ0 TJ0 0
theorem nmJ0 : ∀ a, a < 0 → ∀ b, b < 0 → a ≠ b → (TJ0 a).2.1 ≠ (TJ0 b).2.1 := by decide +kernel
theorem tyJ0_ok : ∀ k, k < 0 → parseFieldDescriptor (TJ0 k).2.2.1 = some (tyJ0 k) := by decide +kernel
abbrev cJ0_length_8abf5 : ByteArray := prog_14_method_54_code
def yJ0_length_8abf5 : MethodName := ⟨RJ0, "length", "()I"⟩
abbrev cJ0_charAt_5068e : ByteArray := prog_14_method_56_code
def yJ0_charAt_5068e : MethodName := ⟨RJ0, "charAt", "(I)C"⟩
abbrev cJ0_coder_7d493 : ByteArray := prog_14_method_152_code
def yJ0_coder_7d493 : MethodName := ⟨RJ0, "coder", "()B"⟩
abbrev cJ0_isLatin1_aae02 : ByteArray := prog_14_method_154_code
def yJ0_isLatin1_aae02 : MethodName := ⟨RJ0, "isLatin1", "()Z"⟩
abbrev cJ0_checkIndex_df160 : ByteArray := prog_14_method_155_code
def yJ0_checkIndex_df160 : MethodName := ⟨RJ0, "checkIndex", "(II)V"⟩
def RJ1 : String := "java/lang/StringLatin1"
def TJ1 : u_T := fun k => match k with
  | _ => ("", "", "", false)
def tyJ1 : Nat → FieldType := fun k => match k with
  | _ => .int
abbrev wsJ10 : List Cond := u_ws RJ1 TJ1 0
theorem nmJ1 : ∀ a, a < 0 → ∀ b, b < 0 → a ≠ b → (TJ1 a).2.1 ≠ (TJ1 b).2.1 := by decide +kernel
theorem tyJ1_ok : ∀ k, k < 0 → parseFieldDescriptor (TJ1 k).2.2.1 = some (tyJ1 k) := by decide +kernel
abbrev cJ1_charAt_3b067 : ByteArray := prog_15_method_2_code
def yJ1_charAt_3b067 : MethodName := ⟨RJ1, "charAt", "([BI)C"⟩
def RJ2 : String := "java/lang/StringUTF16"
def TJ2 : u_T := fun k => match k with
  | _ => ("", "", "", false)
def tyJ2 : Nat → FieldType := fun k => match k with
  | _ => .int
abbrev wsJ20 : List Cond := u_ws RJ2 TJ2 0
theorem nmJ2 : ∀ a, a < 0 → ∀ b, b < 0 → a ≠ b → (TJ2 a).2.1 ≠ (TJ2 b).2.1 := by decide +kernel
theorem tyJ2_ok : ∀ k, k < 0 → parseFieldDescriptor (TJ2 k).2.2.1 = some (tyJ2 k) := by decide +kernel
abbrev cJ2_getChar_3b067 : ByteArray := prog_16_method_5_code
def yJ2_getChar_3b067 : MethodName := ⟨RJ2, "getChar", "([BI)C"⟩
abbrev cJ2_length_9d52b : ByteArray := prog_16_method_6_code
def yJ2_length_9d52b : MethodName := ⟨RJ2, "length", "([B)I"⟩
abbrev cJ2_charAt_3b067 : ByteArray := prog_16_method_83_code
def yJ2_charAt_3b067 : MethodName := ⟨RJ2, "charAt", "([BI)C"⟩
abbrev cJ2_checkIndex_2214a : ByteArray := prog_16_method_91_code
def yJ2_checkIndex_2214a : MethodName := ⟨RJ2, "checkIndex", "(I[B)V"⟩
def RJ10 : String := "java/lang/System"
def TJ10 : u_T := fun k => match k with
  | _ => ("", "", "", false)
def tyJ10 : Nat → FieldType := fun k => match k with
  | _ => .int
abbrev wsJ100 : List Cond := u_ws RJ10 TJ10 0
theorem nmJ10 : ∀ a, a < 0 → ∀ b, b < 0 → a ≠ b → (TJ10 a).2.1 ≠ (TJ10 b).2.1 := by decide +kernel
theorem tyJ10_ok : ∀ k, k < 0 → parseFieldDescriptor (TJ10 k).2.2.1 = some (tyJ10 k) := by decide +kernel
def RJ7 : String := "java/util/Arrays"
def TJ7 : u_T := fun k => match k with
  | _ => ("", "", "", false)
def tyJ7 : Nat → FieldType := fun k => match k with
  | _ => .int
abbrev wsJ70 : List Cond := u_ws RJ7 TJ7 0
theorem nmJ7 : ∀ a, a < 0 → ∀ b, b < 0 → a ≠ b → (TJ7 a).2.1 ≠ (TJ7 b).2.1 := by decide +kernel
theorem tyJ7_ok : ∀ k, k < 0 → parseFieldDescriptor (TJ7 k).2.2.1 = some (tyJ7 k) := by decide +kernel
abbrev cJ7_fill_53178 : ByteArray := prog_18_method_103_code
def yJ7_fill_53178 : MethodName := ⟨RJ7, "fill", "([II)V"⟩
def RJ3 : String := "jdk/internal/util/Preconditions"
def TJ3 : u_T := fun k => match k with
  | _ => ("", "", "", false)
def tyJ3 : Nat → FieldType := fun k => match k with
  | _ => .int
abbrev wsJ30 : List Cond := u_ws RJ3 TJ3 0
theorem nmJ3 : ∀ a, a < 0 → ∀ b, b < 0 → a ≠ b → (TJ3 a).2.1 ≠ (TJ3 b).2.1 := by decide +kernel
theorem tyJ3_ok : ∀ k, k < 0 → parseFieldDescriptor (TJ3 k).2.2.1 = some (tyJ3 k) := by decide +kernel
abbrev cJ3_checkIndex_8e157 : ByteArray := prog_19_method_11_code
def yJ3_checkIndex_8e157 : MethodName := ⟨RJ3, "checkIndex", "(IILjava/util/function/BiFunction;)I"⟩
def RL : String := "TheOneWithoutLaw"
abbrev cL_law : ByteArray := code
def yL_law : MethodName := ⟨RL, "law", "([I)Z"⟩
abbrev vwCl : List vw_C := [(RX0, TX0, 8), (RX1, TX1, 7), (RX2, TX2, 3), (RX3, TX3, 4), (RX4, TX4, 10), (RX5, TX5, 4), (RX6, TX6, 15), (RX7, TX7, 8), (RX8, TX8, 12), (RX9, TX9, 42)]
