theorem dJ0_coder_7d493_0 : decode cJ0_coder_7d493 0 = .ok (.getstatic 38, 3) := by decide +kernel
theorem dJ0_coder_7d493_3 : decode cJ0_coder_7d493 3 = .ok (.ifCond .eq 10, 3) := by decide +kernel
theorem dJ0_coder_7d493_6 : decode cJ0_coder_7d493 6 = .ok (.aload_n 0, 1) := by decide +kernel
theorem dJ0_coder_7d493_7 : decode cJ0_coder_7d493 7 = .ok (.getfield 15, 3) := by decide +kernel
theorem dJ0_coder_7d493_10 : decode cJ0_coder_7d493 10 = .ok (.goto 4, 3) := by decide +kernel
theorem dJ0_coder_7d493_13 : decode cJ0_coder_7d493 13 = .ok (.iconst 1, 1) := by decide +kernel
theorem dJ0_coder_7d493_14 : decode cJ0_coder_7d493 14 = .ok (.ireturn, 1) := by decide +kernel
theorem dJ0_isLatin1_aae02_0 : decode cJ0_isLatin1_aae02 0 = .ok (.getstatic 38, 3) := by decide +kernel
theorem dJ0_isLatin1_aae02_3 : decode cJ0_isLatin1_aae02 3 = .ok (.ifCond .eq 14, 3) := by decide +kernel
theorem dJ0_isLatin1_aae02_6 : decode cJ0_isLatin1_aae02 6 = .ok (.aload_n 0, 1) := by decide +kernel
theorem dJ0_isLatin1_aae02_7 : decode cJ0_isLatin1_aae02 7 = .ok (.getfield 15, 3) := by decide +kernel
theorem dJ0_isLatin1_aae02_10 : decode cJ0_isLatin1_aae02 10 = .ok (.ifCond .ne 7, 3) := by decide +kernel
theorem dJ0_isLatin1_aae02_13 : decode cJ0_isLatin1_aae02 13 = .ok (.iconst 1, 1) := by decide +kernel
theorem dJ0_isLatin1_aae02_14 : decode cJ0_isLatin1_aae02 14 = .ok (.goto 4, 3) := by decide +kernel
theorem dJ0_isLatin1_aae02_17 : decode cJ0_isLatin1_aae02 17 = .ok (.iconst 0, 1) := by decide +kernel
theorem dJ0_isLatin1_aae02_18 : decode cJ0_isLatin1_aae02 18 = .ok (.ireturn, 1) := by decide +kernel
theorem dJ0_length_8abf5_0 : decode cJ0_length_8abf5 0 = .ok (.aload_n 0, 1) := by decide +kernel
theorem dJ0_length_8abf5_1 : decode cJ0_length_8abf5 1 = .ok (.getfield 9, 3) := by decide +kernel
theorem dJ0_length_8abf5_4 : decode cJ0_length_8abf5 4 = .ok (.arraylength, 1) := by decide +kernel
theorem dJ0_length_8abf5_5 : decode cJ0_length_8abf5 5 = .ok (.aload_n 0, 1) := by decide +kernel
theorem dJ0_length_8abf5_6 : decode cJ0_length_8abf5 6 = .ok (.invokevirtual 335, 3) := by decide +kernel
theorem dJ0_length_8abf5_9 : decode cJ0_length_8abf5 9 = .ok (.ishr, 1) := by decide +kernel
theorem dJ0_length_8abf5_10 : decode cJ0_length_8abf5 10 = .ok (.ireturn, 1) := by decide +kernel
theorem dJ3_checkIndex_8e157_0 : decode cJ3_checkIndex_8e157 0 = .ok (.iload_n 0, 1) := by decide +kernel
theorem dJ3_checkIndex_8e157_1 : decode cJ3_checkIndex_8e157 1 = .ok (.ifCond .lt 8, 3) := by decide +kernel
theorem dJ3_checkIndex_8e157_4 : decode cJ3_checkIndex_8e157 4 = .ok (.iload_n 0, 1) := by decide +kernel
theorem dJ3_checkIndex_8e157_5 : decode cJ3_checkIndex_8e157 5 = .ok (.iload_n 1, 1) := by decide +kernel
theorem dJ3_checkIndex_8e157_6 : decode cJ3_checkIndex_8e157 6 = .ok (.if_icmp .lt 10, 3) := by decide +kernel
theorem dJ3_checkIndex_8e157_9 : decode cJ3_checkIndex_8e157 9 = .ok (.aload_n 2, 1) := by decide +kernel
theorem dJ3_checkIndex_8e157_10 : decode cJ3_checkIndex_8e157 10 = .ok (.iload_n 0, 1) := by decide +kernel
theorem dJ3_checkIndex_8e157_11 : decode cJ3_checkIndex_8e157 11 = .ok (.iload_n 1, 1) := by decide +kernel
theorem dJ3_checkIndex_8e157_12 : decode cJ3_checkIndex_8e157 12 = .ok (.invokestatic 95, 3) := by decide +kernel
theorem dJ3_checkIndex_8e157_15 : decode cJ3_checkIndex_8e157 15 = .ok (.athrow, 1) := by decide +kernel
theorem dJ3_checkIndex_8e157_16 : decode cJ3_checkIndex_8e157 16 = .ok (.iload_n 0, 1) := by decide +kernel
theorem dJ3_checkIndex_8e157_17 : decode cJ3_checkIndex_8e157 17 = .ok (.ireturn, 1) := by decide +kernel
theorem dJ0_checkIndex_df160_0 : decode cJ0_checkIndex_df160 0 = .ok (.iload_n 0, 1) := by decide +kernel
theorem dJ0_checkIndex_df160_1 : decode cJ0_checkIndex_df160 1 = .ok (.iload_n 1, 1) := by decide +kernel
theorem dJ0_checkIndex_df160_2 : decode cJ0_checkIndex_df160 2 = .ok (.getstatic 1053, 3) := by decide +kernel
theorem dJ0_checkIndex_df160_5 : decode cJ0_checkIndex_df160 5 = .ok (.invokestatic 1059, 3) := by decide +kernel
theorem dJ0_checkIndex_df160_8 : decode cJ0_checkIndex_df160 8 = .ok (.pop, 1) := by decide +kernel
theorem dJ0_checkIndex_df160_9 : decode cJ0_checkIndex_df160 9 = .ok (.return_, 1) := by decide +kernel
theorem dJ1_charAt_3b067_0 : decode cJ1_charAt_3b067 0 = .ok (.iload_n 1, 1) := by decide +kernel
theorem dJ1_charAt_3b067_1 : decode cJ1_charAt_3b067 1 = .ok (.aload_n 0, 1) := by decide +kernel
theorem dJ1_charAt_3b067_2 : decode cJ1_charAt_3b067 2 = .ok (.arraylength, 1) := by decide +kernel
theorem dJ1_charAt_3b067_3 : decode cJ1_charAt_3b067 3 = .ok (.invokestatic 9, 3) := by decide +kernel
theorem dJ1_charAt_3b067_6 : decode cJ1_charAt_3b067 6 = .ok (.aload_n 0, 1) := by decide +kernel
theorem dJ1_charAt_3b067_7 : decode cJ1_charAt_3b067 7 = .ok (.iload_n 1, 1) := by decide +kernel
theorem dJ1_charAt_3b067_8 : decode cJ1_charAt_3b067 8 = .ok (.baload, 1) := by decide +kernel
theorem dJ1_charAt_3b067_9 : decode cJ1_charAt_3b067 9 = .ok (.sipush 255, 3) := by decide +kernel
theorem dJ1_charAt_3b067_12 : decode cJ1_charAt_3b067 12 = .ok (.iand, 1) := by decide +kernel
theorem dJ1_charAt_3b067_13 : decode cJ1_charAt_3b067 13 = .ok (.i2c, 1) := by decide +kernel
theorem dJ1_charAt_3b067_14 : decode cJ1_charAt_3b067 14 = .ok (.ireturn, 1) := by decide +kernel
theorem dJ0_charAt_5068e_0 : decode cJ0_charAt_5068e 0 = .ok (.aload_n 0, 1) := by decide +kernel
theorem dJ0_charAt_5068e_1 : decode cJ0_charAt_5068e 1 = .ok (.invokevirtual 492, 3) := by decide +kernel
theorem dJ0_charAt_5068e_4 : decode cJ0_charAt_5068e 4 = .ok (.ifCond .eq 12, 3) := by decide +kernel
theorem dJ0_charAt_5068e_7 : decode cJ0_charAt_5068e 7 = .ok (.aload_n 0, 1) := by decide +kernel
theorem dJ0_charAt_5068e_8 : decode cJ0_charAt_5068e 8 = .ok (.getfield 9, 3) := by decide +kernel
theorem dJ0_charAt_5068e_11 : decode cJ0_charAt_5068e 11 = .ok (.iload_n 1, 1) := by decide +kernel
theorem dJ0_charAt_5068e_12 : decode cJ0_charAt_5068e 12 = .ok (.invokestatic 495, 3) := by decide +kernel
theorem dJ0_charAt_5068e_15 : decode cJ0_charAt_5068e 15 = .ok (.ireturn, 1) := by decide +kernel
theorem dJ0_charAt_5068e_16 : decode cJ0_charAt_5068e 16 = .ok (.aload_n 0, 1) := by decide +kernel
theorem dJ0_charAt_5068e_17 : decode cJ0_charAt_5068e 17 = .ok (.getfield 9, 3) := by decide +kernel
theorem dJ0_charAt_5068e_20 : decode cJ0_charAt_5068e 20 = .ok (.iload_n 1, 1) := by decide +kernel
theorem dJ0_charAt_5068e_21 : decode cJ0_charAt_5068e 21 = .ok (.invokestatic 498, 3) := by decide +kernel
theorem dJ0_charAt_5068e_24 : decode cJ0_charAt_5068e 24 = .ok (.ireturn, 1) := by decide +kernel
theorem ws_c0 : Cond.code yJ0_coder_7d493 cJ0_coder_7d493 1 (some .byte) ∈ xW := xW_in (List.mem_of_getElem? (i := 864) (by decide +kernel)) (by decide +kernel)
theorem ws_c1 : Cond.code yJ0_isLatin1_aae02 cJ0_isLatin1_aae02 1 (some .boolean) ∈ xW := xW_in (List.mem_of_getElem? (i := 874) (by decide +kernel)) (by decide +kernel)
theorem ws_c2 : Cond.code yJ0_length_8abf5 cJ0_length_8abf5 1 (some .int) ∈ xW := xW_in (List.mem_of_getElem? (i := 860) (by decide +kernel)) (by decide +kernel)
theorem ws_c3 : Cond.code yJ3_checkIndex_8e157 cJ3_checkIndex_8e157 3 (some .int) ∈ xW := xW_in (List.mem_of_getElem? (i := 885) (by decide +kernel)) (by decide +kernel)
theorem ws_c4 : Cond.code yJ0_checkIndex_df160 cJ0_checkIndex_df160 2 none ∈ xW := xW_in (List.mem_of_getElem? (i := 880) (by decide +kernel)) (by decide +kernel)
theorem ws_c5 : Cond.code yJ1_charAt_3b067 cJ1_charAt_3b067 2 (some .char) ∈ xW := xW_in (List.mem_of_getElem? (i := 877) (by decide +kernel)) (by decide +kernel)
theorem ws_c6 : Cond.code yJ0_charAt_5068e cJ0_charAt_5068e 2 (some .char) ∈ xW := xW_in (List.mem_of_getElem? (i := 870) (by decide +kernel)) (by decide +kernel)
theorem ws_iJ0 : Cond.initialized RJ0 ∈ xW := xW_in (List.mem_of_getElem? (i := 120) (by decide +kernel)) (by decide +kernel)
theorem ws_iJ1 : Cond.initialized RJ1 ∈ xW := xW_in (List.mem_of_getElem? (i := 121) (by decide +kernel)) (by decide +kernel)
theorem ws_iJ3 : Cond.initialized RJ3 ∈ xW := xW_in (List.mem_of_getElem? (i := 122) (by decide +kernel)) (by decide +kernel)
theorem ws_m0 : Cond.instanceMethod yJ0_coder_7d493 ∈ xW := xW_in (List.mem_of_getElem? (i := 862) (by decide +kernel)) (by decide +kernel)
theorem ws_v0 : Cond.selects "java/lang/String" yJ0_coder_7d493 yJ0_coder_7d493 ∈ xW := xW_in (List.mem_of_getElem? (i := 863) (by decide +kernel)) (by decide +kernel)
theorem ws_m1 : Cond.instanceMethod yJ0_isLatin1_aae02 ∈ xW := xW_in (List.mem_of_getElem? (i := 872) (by decide +kernel)) (by decide +kernel)
theorem ws_v1 : Cond.selects "java/lang/String" yJ0_isLatin1_aae02 yJ0_isLatin1_aae02 ∈ xW := xW_in (List.mem_of_getElem? (i := 873) (by decide +kernel)) (by decide +kernel)
theorem ws_m2 : Cond.instanceMethod yJ0_length_8abf5 ∈ xW := xW_in (List.mem_of_getElem? (i := 858) (by decide +kernel)) (by decide +kernel)
theorem ws_v2 : Cond.selects "java/lang/String" yJ0_length_8abf5 yJ0_length_8abf5 ∈ xW := xW_in (List.mem_of_getElem? (i := 859) (by decide +kernel)) (by decide +kernel)
theorem ws_s3 : Cond.static yJ3_checkIndex_8e157 ∈ xW := xW_in (List.mem_of_getElem? (i := 884) (by decide +kernel)) (by decide +kernel)
theorem ws_s4 : Cond.static yJ0_checkIndex_df160 ∈ xW := xW_in (List.mem_of_getElem? (i := 879) (by decide +kernel)) (by decide +kernel)
theorem ws_s5 : Cond.static yJ1_charAt_3b067 ∈ xW := xW_in (List.mem_of_getElem? (i := 876) (by decide +kernel)) (by decide +kernel)
theorem ws_m6 : Cond.instanceMethod yJ0_charAt_5068e ∈ xW := xW_in (List.mem_of_getElem? (i := 868) (by decide +kernel)) (by decide +kernel)
theorem ws_v6 : Cond.selects "java/lang/String" yJ0_charAt_5068e yJ0_charAt_5068e ∈ xW := xW_in (List.mem_of_getElem? (i := 869) (by decide +kernel)) (by decide +kernel)
theorem ws_f38 : Cond.fieldLink RJ0 38 "java/lang/String" "COMPACT_STRINGS" "Z" ∈ xW := xW_in (List.mem_of_getElem? (i := 865) (by decide +kernel)) (by decide +kernel)
theorem ws_f15 : Cond.fieldLink RJ0 15 "java/lang/String" "coder" "B" ∈ xW := xW_in (List.mem_of_getElem? (i := 1853) (by decide +kernel)) (by decide +kernel)
theorem ws_f9 : Cond.fieldLink RJ0 9 "java/lang/String" "value" "[B" ∈ xW := xW_in (List.mem_of_getElem? (i := 1852) (by decide +kernel)) (by decide +kernel)
theorem ws_f1053 : Cond.fieldLink RJ0 1053 "jdk/internal/util/Preconditions" "SIOOBE_FORMATTER" "Ljava/util/function/BiFunction;" ∈ xW := xW_in (List.mem_of_getElem? (i := 881) (by decide +kernel)) (by decide +kernel)
theorem ws_l335 : Cond.methodLink RJ0 335 yJ0_coder_7d493 ∈ xW := xW_in (List.mem_of_getElem? (i := 861) (by decide +kernel)) (by decide +kernel)
theorem ws_l492 : Cond.methodLink RJ0 492 yJ0_isLatin1_aae02 ∈ xW := xW_in (List.mem_of_getElem? (i := 871) (by decide +kernel)) (by decide +kernel)
theorem ws_l495 : Cond.methodLink RJ0 495 yJ1_charAt_3b067 ∈ xW := xW_in (List.mem_of_getElem? (i := 875) (by decide +kernel)) (by decide +kernel)
theorem ws_l9 : Cond.methodLink RJ1 9 yJ0_checkIndex_df160 ∈ xW := xW_in (List.mem_of_getElem? (i := 878) (by decide +kernel)) (by decide +kernel)
theorem ws_l1059 : Cond.methodLink RJ0 1059 yJ3_checkIndex_8e157 ∈ xW := xW_in (List.mem_of_getElem? (i := 883) (by decide +kernel)) (by decide +kernel)
def xsP (G : xG) (base : Nat) (f : Nat → Nat → Int32) (N : Nat) (ρ : Nat → Nat) (adV : Nat → Nat) (as : List Value) : Array Value → State → Prop := fun a U => a = as.toArray ∧ xOld G base f N ρ adV U
def xsQ (v : Option Value) : Array Value → State → Outcome → State → Prop := fun _ st o t => o = .returned v ∧ t.heap = st.heap
theorem xsP_blind {G : xG} {base : Nat} {f : Nat → Nat → Int32} {N : Nat} {ρ : Nat → Nat} {adV : Nat → Nat} {as : List Value} : FrameBlind (xsP G base f N ρ adV as) := fun a U g mk h =>
  ⟨h.1, xOld_moved (locs := []) h.2 (State.WarmedH.refl U) (va_S.rf (H0 := U.heap))⟩
def xcws (w : Cond) : List Cond := w :: xW
theorem x_callQ {p : Program} {l : Launch} {e : Env} {R : Room} {s : State} {m : MethodId} {args : Array Value} {below : List Frame} {meth : Method} {c : Code} {H : Heap} {locs : List Loc} {cells slots : Nat} {Q : State → Prop} {g : JFrame} {rest : List Value} {v : Option Value} {a : Array Value} (hr : CallRun p l e R s m args below meth c H locs cells slots 0 0 g rest (xsQ v a) (fun _ => False)) (kk : W p l e R s m args below meth c H locs cells slots Q { g with pc := g.pc + 3, stack := v.toList ++ rest }) : W p l e R s m args below meth c H locs cells slots Q g := by
  intro T hT X
  obtain ⟨v', st₀, t, T', L, h0, X', hL, e1, ⟨hv, hh⟩, st⟩ := hr T hT X
  cases hv
  obtain ⟨t2, a1, b1⟩ := kk T' (by rw [e1, hh, h0]) (Stand.forget X' (fun q h => (hL q h).elim))
  exact ⟨t2, st t2 a1, b1⟩
theorem x_cb {R : Room} {s : State} {args : Array Value} {own : String} {ix n fr lo maxL : Nat} {Ts : List Cond} {y : MethodName} {cb : ByteArray} {ret : Option FieldType} (hts : ∀ w ∈ Ts, w.before args s = true) (hW : ∀ w ∈ xW, w ∈ Ts) (h1 : Cond.code y cb maxL ret ∈ xW) (h2 : Cond.initialized y.cls ∈ xW) (hml : Cond.methodLink own ix y ∈ xW) (h3 : y.cls ≠ "java/lang/invoke/MethodHandle" ∧ y.cls ≠ "java/lang/invoke/VarHandle" ∧ (parseMethodDescriptor y.desc).map (fun d => d.parameters.length) = some n) (hR : fr + 1 ≤ R.frames ∧ 8 + (maxL + 11) + lo ≤ R.locals) : CallB R s args own ix y cb maxL ret (xcws (Cond.code y cb maxL ret)) { frames := fr, cells := 0, slots := 0, locals := lo } 0 0 n := by
  refine callB_of (Ts := Ts) (ws' := xW) n hts (fun w hw => ?_) rfl rfl rfl (hts _ (hW _ h2)) (hts _ (hW _ hml)) h3 hR
  rcases List.mem_cons.mp hw with rfl | hw
  · exact ⟨hW _ h1, xW_good h1⟩
  · exact ⟨hW _ hw, xW_good hw⟩
set_option maxHeartbeats 2000000 in
theorem xs_coder {l : Launch} {G : xG} {base : Nat} {f : Nat → Nat → Int32} {N : Nat} {ρ : Nat → Nat} {adV : Nat → Nat} {i : Nat} (hi : i < 6) : Met l yJ0_coder_7d493 (xcws (Cond.code yJ0_coder_7d493 cJ0_coder_7d493 1 (some .byte))) { frames := 1, cells := 0, slots := 0, locals := 20 } (xsP G base f N ρ adV [.ref (ρ (3 + i))]) (xsQ (some (.int 0))) 0 0 (fun _ => False) := by
  refine Met.ofW (cc := cJ0_coder_7d493) (maxL := 1) (ret := (some .byte)) (by decide) rfl ?_
  intro p e s m args below meth c s₁ B hml hv
  obtain ⟨rfl, hO⟩ := hv
  have hx := B.exec
  have hb := B.bytes
  have hr := B.returns
  have hts := atoms_spec (ws := xcws (Cond.code yJ0_coder_7d493 cJ0_coder_7d493 1 (some .byte))) B.pre
  have hW : ∀ w ∈ xW, w ∈ xcws (Cond.code yJ0_coder_7d493 cJ0_coder_7d493 1 (some .byte)) := fun w hw => List.mem_cons_of_mem _ hw
  have hown : s.vm.findClass RJ0 = some m.cls := findClass_of_methodNamed B.named
  have hlocks := B.notSynchronized
  have hS : va_S (xA base) s.heap s.heap [] := va_S.rf
  have hl := lv_entry ([.ref (ρ (3 + i))]) (n := 1) (Nat.le_of_ble_eq_true rfl)
  rw [lg_entry_eq]
  generalize (lg_sl ([.ref (ρ (3 + i))]) ++ List.replicate (1 - (lg_sl ([.ref (ρ (3 + i))])).length) Slot.unset).toArray = ls at hl ⊢
  have hl : lv_has ls 1 [(0, .ref (ρ (3 + i)))] := hl
  have h6 := hO.2.2.2.2.2.2.2.2.1.1 i hi
  refine va_gets hx hb hO.2.2.2.2.2.2.2.2.2.1 hS hown (hts _ (hW _ ws_f38)) (fun _ q => q) dJ0_coder_7d493_0 ?_
  refine lv_if_eq (tgt := 13) hx hb dJ0_coder_7d493_3 (by decide) (fun q => absurd q (by decide)) (fun _ => ?_)
  refine lv_aload_n hx hb dJ0_coder_7d493_6 rfl (lv_at hl 0 rfl) ?_
  refine vk_getf hx hb h6.2.1 hS hown (hts _ (hW _ ws_f15)) (fun _ q => q) dJ0_coder_7d493_7 ?_
  refine lv_goto (tgt := 14) hx hb dJ0_coder_7d493_10 (by decide) ?_
  exact W.zret (ty := .byte) hx hb hr rfl (fun t ht _ => ⟨rfl, ht⟩) (fun q h => by cases h) dJ0_coder_7d493_14
set_option maxHeartbeats 2000000 in
theorem xs_isL {l : Launch} {G : xG} {base : Nat} {f : Nat → Nat → Int32} {N : Nat} {ρ : Nat → Nat} {adV : Nat → Nat} {i : Nat} (hi : i < 6) : Met l yJ0_isLatin1_aae02 (xcws (Cond.code yJ0_isLatin1_aae02 cJ0_isLatin1_aae02 1 (some .boolean))) { frames := 1, cells := 0, slots := 0, locals := 20 } (xsP G base f N ρ adV [.ref (ρ (3 + i))]) (xsQ (some (.int 1))) 0 0 (fun _ => False) := by
  refine Met.ofW (cc := cJ0_isLatin1_aae02) (maxL := 1) (ret := (some .boolean)) (by decide) rfl ?_
  intro p e s m args below meth c s₁ B hml hv
  obtain ⟨rfl, hO⟩ := hv
  have hx := B.exec
  have hb := B.bytes
  have hr := B.returns
  have hts := atoms_spec (ws := xcws (Cond.code yJ0_isLatin1_aae02 cJ0_isLatin1_aae02 1 (some .boolean))) B.pre
  have hW : ∀ w ∈ xW, w ∈ xcws (Cond.code yJ0_isLatin1_aae02 cJ0_isLatin1_aae02 1 (some .boolean)) := fun w hw => List.mem_cons_of_mem _ hw
  have hown : s.vm.findClass RJ0 = some m.cls := findClass_of_methodNamed B.named
  have hlocks := B.notSynchronized
  have hS : va_S (xA base) s.heap s.heap [] := va_S.rf
  have hl := lv_entry ([.ref (ρ (3 + i))]) (n := 1) (Nat.le_of_ble_eq_true rfl)
  rw [lg_entry_eq]
  generalize (lg_sl ([.ref (ρ (3 + i))]) ++ List.replicate (1 - (lg_sl ([.ref (ρ (3 + i))])).length) Slot.unset).toArray = ls at hl ⊢
  have hl : lv_has ls 1 [(0, .ref (ρ (3 + i)))] := hl
  have h6 := hO.2.2.2.2.2.2.2.2.1.1 i hi
  refine va_gets hx hb hO.2.2.2.2.2.2.2.2.2.1 hS hown (hts _ (hW _ ws_f38)) (fun _ q => q) dJ0_isLatin1_aae02_0 ?_
  refine lv_if_eq (tgt := 17) hx hb dJ0_isLatin1_aae02_3 (by decide) (fun q => absurd q (by decide)) (fun _ => ?_)
  refine lv_aload_n hx hb dJ0_isLatin1_aae02_6 rfl (lv_at hl 0 rfl) ?_
  refine vk_getf hx hb h6.2.1 hS hown (hts _ (hW _ ws_f15)) (fun _ q => q) dJ0_isLatin1_aae02_7 ?_
  refine lv_if_ne (tgt := 17) hx hb dJ0_isLatin1_aae02_10 (by decide) (fun q => absurd rfl q) (fun _ => ?_)
  refine lv_iconst (v := 1) hx hb dJ0_isLatin1_aae02_13 (by decide) ?_
  refine lv_goto (tgt := 18) hx hb dJ0_isLatin1_aae02_14 (by decide) ?_
  exact W.zret (ty := .boolean) hx hb hr rfl (fun t ht _ => ⟨rfl, ht⟩) (fun q h => by cases h) dJ0_isLatin1_aae02_18
set_option maxHeartbeats 2000000 in
theorem xs_length {l : Launch} {G : xG} {base : Nat} {f : Nat → Nat → Int32} {N : Nat} {ρ : Nat → Nat} {adV : Nat → Nat} {i : Nat} (hi : i < 6) : Met l yJ0_length_8abf5 (xcws (Cond.code yJ0_length_8abf5 cJ0_length_8abf5 1 (some .int))) { frames := 2, cells := 0, slots := 0, locals := 60 } (xsP G base f N ρ adV [.ref (ρ (3 + i))]) (xsQ (some (.int (nI (xslen.getD i 0))))) 0 0 (fun _ => False) := by
  refine Met.ofW (cc := cJ0_length_8abf5) (maxL := 1) (ret := (some .int)) (by decide) rfl ?_
  intro p e s m args below meth c s₁ B hml hv
  obtain ⟨rfl, hO⟩ := hv
  have hx := B.exec
  have hb := B.bytes
  have hr := B.returns
  have hts := atoms_spec (ws := xcws (Cond.code yJ0_length_8abf5 cJ0_length_8abf5 1 (some .int))) B.pre
  have hW : ∀ w ∈ xW, w ∈ xcws (Cond.code yJ0_length_8abf5 cJ0_length_8abf5 1 (some .int)) := fun w hw => List.mem_cons_of_mem _ hw
  have hown : s.vm.findClass RJ0 = some m.cls := findClass_of_methodNamed B.named
  have hlocks := B.notSynchronized
  have hS : va_S (xA base) s.heap s.heap [] := va_S.rf
  have hl := lv_entry ([.ref (ρ (3 + i))]) (n := 1) (Nat.le_of_ble_eq_true rfl)
  rw [lg_entry_eq]
  generalize (lg_sl ([.ref (ρ (3 + i))]) ++ List.replicate (1 - (lg_sl ([.ref (ρ (3 + i))])).length) Slot.unset).toArray = ls at hl ⊢
  have hl : lv_has ls 1 [(0, .ref (ρ (3 + i)))] := hl
  have h6 := hO.2.2.2.2.2.2.2.2.1.1 i hi
  refine lv_aload_n hx hb dJ0_length_8abf5_0 rfl (lv_at hl 0 rfl) ?_
  refine vk_getf hx hb h6.2.2.1 hS hown (hts _ (hW _ ws_f9)) (fun _ q => q) dJ0_length_8abf5_1 ?_
  refine va_tlen hx hb h6.2.2.2 hS rfl dJ0_length_8abf5_4 ?_
  refine lv_aload_n hx hb dJ0_length_8abf5_5 rfl (lv_at hl 0 rfl) ?_
  refine x_callQ (W.runV (C := "java/lang/String") (b := ρ (3 + i)) (As := []) (rest := [.int (nI (xslen.getD i 0))]) ⟨hx, hb, hml, hown, hts⟩ (xs_coder hi) ⟨x_cb hts hW ws_c0 ws_iJ0 ws_l335 (by decide +kernel) ⟨by decide, by decide⟩, hts _ (hW _ ws_m0), hts _ (hW _ ws_v0)⟩ ⟨xsP_blind, by obtain ⟨cell, q1, q2, q3, -⟩ := h6.1; exact ⟨cell, q1, q2, q3⟩, fun U hU hWU => ⟨rfl, xOld_moved hO hWU (by rw [hU]; exact hS)⟩⟩ rfl rfl hl.1 rfl (lv_room (by simp [Value.category])) dJ0_length_8abf5_6 ⟨by decide, by decide⟩) ?_
  refine lv_ishr hx hb dJ0_length_8abf5_9 ?_
  rw [show nI (xslen.getD i 0) >>> ((0 : Int32) &&& 31) = nI (xslen.getD i 0) from sb_shr0 _]
  exact W.iret hx hb hr (fun t ht _ => ⟨rfl, ht⟩) (fun q h => by cases h) dJ0_length_8abf5_10
set_option maxHeartbeats 2000000 in
theorem xs_pre0 {l : Launch} {G : xG} {base : Nat} {f : Nat → Nat → Int32} {N : Nat} {ρ : Nat → Nat} {adV : Nat → Nat} {i n : Nat} (hi : i < n) (hn : n < 100) : Met l yJ3_checkIndex_8e157 (xcws (Cond.code yJ3_checkIndex_8e157 cJ3_checkIndex_8e157 3 (some .int))) { frames := 1, cells := 0, slots := 0, locals := 20 } (xsP G base f N ρ adV [.int (nI i), .int (nI n), .null]) (xsQ (some (.int (nI i)))) 0 0 (fun _ => False) := by
  refine Met.ofW (cc := cJ3_checkIndex_8e157) (maxL := 3) (ret := (some .int)) (by decide) rfl ?_
  intro p e s m args below meth c s₁ B hml hv
  obtain ⟨rfl, hO⟩ := hv
  have hx := B.exec
  have hb := B.bytes
  have hr := B.returns
  have hts := atoms_spec (ws := xcws (Cond.code yJ3_checkIndex_8e157 cJ3_checkIndex_8e157 3 (some .int))) B.pre
  have hW : ∀ w ∈ xW, w ∈ xcws (Cond.code yJ3_checkIndex_8e157 cJ3_checkIndex_8e157 3 (some .int)) := fun w hw => List.mem_cons_of_mem _ hw
  have hown : s.vm.findClass RJ3 = some m.cls := findClass_of_methodNamed B.named
  have hlocks := B.notSynchronized
  have hS : va_S (xA base) s.heap s.heap [] := va_S.rf
  have hl := lv_entry ([.int (nI i), .int (nI n), .null]) (n := 3) (Nat.le_of_ble_eq_true rfl)
  rw [lg_entry_eq]
  generalize (lg_sl ([.int (nI i), .int (nI n), .null]) ++ List.replicate (3 - (lg_sl ([.int (nI i), .int (nI n), .null])).length) Slot.unset).toArray = ls at hl ⊢
  have hl : lv_has ls 3 [(0, .int (nI i)), (1, .int (nI n)), (2, .null)] := hl
  refine lv_iload_n hx hb dJ3_checkIndex_8e157_0 rfl (lv_at hl 0 rfl) ?_
  refine lv_if_lt (tgt := 9) hx hb dJ3_checkIndex_8e157_1 (by decide) (fun q => absurd q (nI_pos (by omega))) (fun _ => ?_)
  refine lv_iload_n hx hb dJ3_checkIndex_8e157_4 rfl (lv_at hl 0 rfl) ?_
  refine lv_iload_n hx hb dJ3_checkIndex_8e157_5 rfl (lv_at hl 1 rfl) ?_
  refine lv_icmp_lt (tgt := 16) hx hb dJ3_checkIndex_8e157_6 (by decide) (fun _ => ?_) (fun q => absurd (nI_lt hi (by omega)) q)
  refine lv_iload_n hx hb dJ3_checkIndex_8e157_16 rfl (lv_at hl 0 rfl) ?_
  exact W.iret hx hb hr (fun t ht _ => ⟨rfl, ht⟩) (fun q h => by cases h) dJ3_checkIndex_8e157_17
set_option maxHeartbeats 2000000 in
theorem xs_pre1 {l : Launch} {G : xG} {base : Nat} {f : Nat → Nat → Int32} {N : Nat} {ρ : Nat → Nat} {adV : Nat → Nat} {i n a : Nat} (hi : i < n) (hn : n < 100) : Met l yJ3_checkIndex_8e157 (xcws (Cond.code yJ3_checkIndex_8e157 cJ3_checkIndex_8e157 3 (some .int))) { frames := 1, cells := 0, slots := 0, locals := 20 } (xsP G base f N ρ adV [.int (nI i), .int (nI n), .ref a]) (xsQ (some (.int (nI i)))) 0 0 (fun _ => False) := by
  refine Met.ofW (cc := cJ3_checkIndex_8e157) (maxL := 3) (ret := (some .int)) (by decide) rfl ?_
  intro p e s m args below meth c s₁ B hml hv
  obtain ⟨rfl, hO⟩ := hv
  have hx := B.exec
  have hb := B.bytes
  have hr := B.returns
  have hts := atoms_spec (ws := xcws (Cond.code yJ3_checkIndex_8e157 cJ3_checkIndex_8e157 3 (some .int))) B.pre
  have hW : ∀ w ∈ xW, w ∈ xcws (Cond.code yJ3_checkIndex_8e157 cJ3_checkIndex_8e157 3 (some .int)) := fun w hw => List.mem_cons_of_mem _ hw
  have hown : s.vm.findClass RJ3 = some m.cls := findClass_of_methodNamed B.named
  have hlocks := B.notSynchronized
  have hS : va_S (xA base) s.heap s.heap [] := va_S.rf
  have hl := lv_entry ([.int (nI i), .int (nI n), .ref a]) (n := 3) (Nat.le_of_ble_eq_true rfl)
  rw [lg_entry_eq]
  generalize (lg_sl ([.int (nI i), .int (nI n), .ref a]) ++ List.replicate (3 - (lg_sl ([.int (nI i), .int (nI n), .ref a])).length) Slot.unset).toArray = ls at hl ⊢
  have hl : lv_has ls 3 [(0, .int (nI i)), (1, .int (nI n)), (2, .ref a)] := hl
  refine lv_iload_n hx hb dJ3_checkIndex_8e157_0 rfl (lv_at hl 0 rfl) ?_
  refine lv_if_lt (tgt := 9) hx hb dJ3_checkIndex_8e157_1 (by decide) (fun q => absurd q (nI_pos (by omega))) (fun _ => ?_)
  refine lv_iload_n hx hb dJ3_checkIndex_8e157_4 rfl (lv_at hl 0 rfl) ?_
  refine lv_iload_n hx hb dJ3_checkIndex_8e157_5 rfl (lv_at hl 1 rfl) ?_
  refine lv_icmp_lt (tgt := 16) hx hb dJ3_checkIndex_8e157_6 (by decide) (fun _ => ?_) (fun q => absurd (nI_lt hi (by omega)) q)
  refine lv_iload_n hx hb dJ3_checkIndex_8e157_16 rfl (lv_at hl 0 rfl) ?_
  exact W.iret hx hb hr (fun t ht _ => ⟨rfl, ht⟩) (fun q h => by cases h) dJ3_checkIndex_8e157_17
theorem xs_pre {l : Launch} {G : xG} {base : Nat} {f : Nat → Nat → Int32} {N : Nat} {ρ : Nat → Nat} {adV : Nat → Nat} {i n : Nat} (hi : i < n) (hn : n < 100) {vF : Value} (hF : vF = .null ∨ ∃ a, vF = .ref a) : Met l yJ3_checkIndex_8e157 (xcws (Cond.code yJ3_checkIndex_8e157 cJ3_checkIndex_8e157 3 (some .int))) { frames := 1, cells := 0, slots := 0, locals := 20 } (xsP G base f N ρ adV [.int (nI i), .int (nI n), vF]) (xsQ (some (.int (nI i)))) 0 0 (fun _ => False) := by
  rcases hF with rfl | ⟨a, rfl⟩
  · exact xs_pre0 hi hn
  · exact xs_pre1 hi hn
set_option maxHeartbeats 2000000 in
theorem xs_chk {l : Launch} {G : xG} {base : Nat} {f : Nat → Nat → Int32} {N : Nat} {ρ : Nat → Nat} {adV : Nat → Nat} {i n : Nat} (hi : i < n) (hn : n < 100) : Met l yJ0_checkIndex_df160 (xcws (Cond.code yJ0_checkIndex_df160 cJ0_checkIndex_df160 2 none)) { frames := 2, cells := 0, slots := 0, locals := 60 } (xsP G base f N ρ adV [.int (nI i), .int (nI n)]) (xsQ none) 0 0 (fun _ => False) := by
  refine Met.ofW (cc := cJ0_checkIndex_df160) (maxL := 2) (ret := none) (by decide) rfl ?_
  intro p e s m args below meth c s₁ B hml hv
  obtain ⟨rfl, hO⟩ := hv
  have hx := B.exec
  have hb := B.bytes
  have hr := B.returns
  have hts := atoms_spec (ws := xcws (Cond.code yJ0_checkIndex_df160 cJ0_checkIndex_df160 2 none)) B.pre
  have hW : ∀ w ∈ xW, w ∈ xcws (Cond.code yJ0_checkIndex_df160 cJ0_checkIndex_df160 2 none) := fun w hw => List.mem_cons_of_mem _ hw
  have hown : s.vm.findClass RJ0 = some m.cls := findClass_of_methodNamed B.named
  have hlocks := B.notSynchronized
  have hS : va_S (xA base) s.heap s.heap [] := va_S.rf
  have hl := lv_entry ([.int (nI i), .int (nI n)]) (n := 2) (Nat.le_of_ble_eq_true rfl)
  rw [lg_entry_eq]
  generalize (lg_sl ([.int (nI i), .int (nI n)]) ++ List.replicate (2 - (lg_sl ([.int (nI i), .int (nI n)])).length) Slot.unset).toArray = ls at hl ⊢
  have hl : lv_has ls 2 [(0, .int (nI i)), (1, .int (nI n))] := hl
  obtain ⟨vF, hZF, hF⟩ := hO.2.2.2.2.2.2.2.2.2.2
  refine lv_iload_n hx hb dJ0_checkIndex_df160_0 rfl (lv_at hl 0 rfl) ?_
  refine lv_iload_n hx hb dJ0_checkIndex_df160_1 rfl (lv_at hl 1 rfl) ?_
  refine va_gets hx hb hZF hS hown (hts _ (hW _ ws_f1053)) (fun _ q => q) dJ0_checkIndex_df160_2 ?_
  refine x_callQ (W.runS (As := [.int (nI i), .int (nI n), vF]) (rest := []) ⟨hx, hb, hml, hown, hts⟩ (xs_pre hi hn hF) ⟨x_cb (n := 3) hts hW ws_c3 ws_iJ3 ws_l1059 (by decide +kernel) ⟨by decide, by decide⟩, hts _ (hW _ ws_s3)⟩ ⟨xsP_blind, fun U hU hWU => ⟨rfl, xOld_moved hO hWU (by rw [hU]; exact hS)⟩⟩ rfl rfl hl.1 rfl (lv_room (by decide)) dJ0_checkIndex_df160_5 ⟨by decide, by decide⟩) ?_
  refine lv_pop hx hb dJ0_checkIndex_df160_8 rfl ?_
  exact W.vret hx hb hr (fun t ht _ => ⟨rfl, ht⟩) (fun q h => by cases h) dJ0_checkIndex_df160_9
theorem xs_byt : ∀ i, i < 6 → ∀ j, j < 5 → j < xslen.getD i 0 → ((((xsbyt.getD i []).getD j 0) &&& 255).toUInt32 % 65536).toInt32 = nI (xnth 0 (xtext (3 + i)) j) ∧ xnth 0 (xtext (3 + i)) j < 65536 := by decide +kernel
theorem xs_len5 : ∀ i, i < 6 → xslen.getD i 0 ≤ 5 ∧ (xtext (3 + i)).length = xslen.getD i 0 := by decide +kernel
set_option maxHeartbeats 2000000 in
theorem xs_lchar {l : Launch} {G : xG} {base : Nat} {f : Nat → Nat → Int32} {N : Nat} {ρ : Nat → Nat} {adV : Nat → Nat} {i j : Nat} (hi : i < 6) (hj : j < xslen.getD i 0) : Met l yJ1_charAt_3b067 (xcws (Cond.code yJ1_charAt_3b067 cJ1_charAt_3b067 2 (some .char))) { frames := 3, cells := 0, slots := 0, locals := 100 } (xsP G base f N ρ adV [.ref (adV i), .int (nI j)]) (xsQ (some (.int (nI (xnth 0 (xtext (3 + i)) j))))) 0 0 (fun _ => False) := by
  refine Met.ofW (cc := cJ1_charAt_3b067) (maxL := 2) (ret := (some .char)) (by decide) rfl ?_
  intro p e s m args below meth c s₁ B hml hv
  obtain ⟨rfl, hO⟩ := hv
  have hx := B.exec
  have hb := B.bytes
  have hr := B.returns
  have hts := atoms_spec (ws := xcws (Cond.code yJ1_charAt_3b067 cJ1_charAt_3b067 2 (some .char))) B.pre
  have hW : ∀ w ∈ xW, w ∈ xcws (Cond.code yJ1_charAt_3b067 cJ1_charAt_3b067 2 (some .char)) := fun w hw => List.mem_cons_of_mem _ hw
  have hown : s.vm.findClass RJ1 = some m.cls := findClass_of_methodNamed B.named
  have hlocks := B.notSynchronized
  have hS : va_S (xA base) s.heap s.heap [] := va_S.rf
  have hl := lv_entry ([.ref (adV i), .int (nI j)]) (n := 2) (Nat.le_of_ble_eq_true rfl)
  rw [lg_entry_eq]
  generalize (lg_sl ([.ref (adV i), .int (nI j)]) ++ List.replicate (2 - (lg_sl ([.ref (adV i), .int (nI j)])).length) Slot.unset).toArray = ls at hl ⊢
  have hl : lv_has ls 2 [(0, .ref (adV i)), (1, .int (nI j))] := hl
  have h6 := hO.2.2.2.2.2.2.2.2.1.1 i hi
  have h5 := (xs_len5 i hi).1
  have hbt := xs_byt i hi j (by omega) hj
  refine lv_iload_n hx hb dJ1_charAt_3b067_0 rfl (lv_at hl 1 rfl) ?_
  refine lv_aload_n hx hb dJ1_charAt_3b067_1 rfl (lv_at hl 0 rfl) ?_
  refine va_tlen hx hb h6.2.2.2 hS rfl dJ1_charAt_3b067_2 ?_
  refine x_callQ (W.runS (As := [.int (nI j), .int (nI (xslen.getD i 0))]) (rest := []) ⟨hx, hb, hml, hown, hts⟩ (xs_chk hj (by omega)) ⟨x_cb (n := 2) hts hW ws_c4 ws_iJ0 ws_l9 (by decide +kernel) ⟨by decide, by decide⟩, hts _ (hW _ ws_s4)⟩ ⟨xsP_blind, fun U hU hWU => ⟨rfl, xOld_moved hO hWU (by rw [hU]; exact hS)⟩⟩ rfl rfl hl.1 rfl (lv_room (by decide)) dJ1_charAt_3b067_3 ⟨by decide, by decide⟩) ?_
  refine lv_aload_n hx hb dJ1_charAt_3b067_6 rfl (lv_at hl 0 rfl) ?_
  refine lv_iload_n hx hb dJ1_charAt_3b067_7 rfl (lv_at hl 1 rfl) ?_
  refine va_tb hx hb h6.2.2.2 hS (vp_in_nI hj (by omega)) (v := .int ((xsbyt.getD i []).getD j 0)) (by rw [nI_clamp (by omega)]) dJ1_charAt_3b067_8 ?_
  refine lv_sipush (v := 255) hx hb dJ1_charAt_3b067_9 (by decide) ?_
  refine lv_iand hx hb dJ1_charAt_3b067_12 ?_
  refine lv_i2c hx hb dJ1_charAt_3b067_13 hbt.1 ?_
  exact W.zret (ty := .char) hx hb hr (pk_charN hbt.2).1 (fun t ht _ => ⟨rfl, ht⟩) (fun q h => by cases h) dJ1_charAt_3b067_14
set_option maxHeartbeats 2000000 in
theorem xs_char {l : Launch} {G : xG} {base : Nat} {f : Nat → Nat → Int32} {N : Nat} {ρ : Nat → Nat} {adV : Nat → Nat} {i j : Nat} (hi : i < 6) (hj : j < xslen.getD i 0) : Met l yJ0_charAt_5068e (xcws (Cond.code yJ0_charAt_5068e cJ0_charAt_5068e 2 (some .char))) { frames := 4, cells := 0, slots := 0, locals := 140 } (xsP G base f N ρ adV [.ref (ρ (3 + i)), .int (nI j)]) (xsQ (some (.int (nI (xnth 0 (xtext (3 + i)) j))))) 0 0 (fun _ => False) := by
  refine Met.ofW (cc := cJ0_charAt_5068e) (maxL := 2) (ret := (some .char)) (by decide) rfl ?_
  intro p e s m args below meth c s₁ B hml hv
  obtain ⟨rfl, hO⟩ := hv
  have hx := B.exec
  have hb := B.bytes
  have hr := B.returns
  have hts := atoms_spec (ws := xcws (Cond.code yJ0_charAt_5068e cJ0_charAt_5068e 2 (some .char))) B.pre
  have hW : ∀ w ∈ xW, w ∈ xcws (Cond.code yJ0_charAt_5068e cJ0_charAt_5068e 2 (some .char)) := fun w hw => List.mem_cons_of_mem _ hw
  have hown : s.vm.findClass RJ0 = some m.cls := findClass_of_methodNamed B.named
  have hlocks := B.notSynchronized
  have hS : va_S (xA base) s.heap s.heap [] := va_S.rf
  have hl := lv_entry ([.ref (ρ (3 + i)), .int (nI j)]) (n := 2) (Nat.le_of_ble_eq_true rfl)
  rw [lg_entry_eq]
  generalize (lg_sl ([.ref (ρ (3 + i)), .int (nI j)]) ++ List.replicate (2 - (lg_sl ([.ref (ρ (3 + i)), .int (nI j)])).length) Slot.unset).toArray = ls at hl ⊢
  have hl : lv_has ls 2 [(0, .ref (ρ (3 + i))), (1, .int (nI j))] := hl
  have h6 := hO.2.2.2.2.2.2.2.2.1.1 i hi
  have h5 := (xs_len5 i hi).1
  have hbt := xs_byt i hi j (by omega) hj
  refine lv_aload_n hx hb dJ0_charAt_5068e_0 rfl (lv_at hl 0 rfl) ?_
  refine x_callQ (W.runV (C := "java/lang/String") (b := ρ (3 + i)) (As := []) (rest := []) ⟨hx, hb, hml, hown, hts⟩ (xs_isL hi) ⟨x_cb hts hW ws_c1 ws_iJ0 ws_l492 (by decide +kernel) ⟨by decide, by decide⟩, hts _ (hW _ ws_m1), hts _ (hW _ ws_v1)⟩ ⟨xsP_blind, by obtain ⟨cell, q1, q2, q3, -⟩ := h6.1; exact ⟨cell, q1, q2, q3⟩, fun U hU hWU => ⟨rfl, xOld_moved hO hWU (by rw [hU]; exact hS)⟩⟩ rfl rfl hl.1 rfl (lv_room (by decide)) dJ0_charAt_5068e_1 ⟨by decide, by decide⟩) ?_
  refine lv_if_eq (tgt := 16) hx hb dJ0_charAt_5068e_4 rfl (fun q => absurd q (by decide)) (fun _ => ?_)
  refine lv_aload_n hx hb dJ0_charAt_5068e_7 rfl (lv_at hl 0 rfl) ?_
  refine vk_getf hx hb h6.2.2.1 hS hown (hts _ (hW _ ws_f9)) (fun _ q => q) dJ0_charAt_5068e_8 ?_
  refine lv_iload_n hx hb dJ0_charAt_5068e_11 rfl (lv_at hl 1 rfl) ?_
  refine x_callQ (W.runS (As := [.ref (adV i), .int (nI j)]) (rest := []) ⟨hx, hb, hml, hown, hts⟩ (xs_lchar (ρ := ρ) hi hj) ⟨x_cb (n := 2) hts hW ws_c5 ws_iJ1 ws_l495 (by decide +kernel) ⟨by decide, by decide⟩, hts _ (hW _ ws_s5)⟩ ⟨xsP_blind, fun U hU hWU => ⟨rfl, xOld_moved hO hWU (by rw [hU]; exact hS)⟩⟩ rfl rfl hl.1 rfl (lv_room (by decide)) dJ0_charAt_5068e_12 ⟨by decide, by decide⟩) ?_
  exact W.zret (ty := .char) hx hb hr (pk_charN hbt.2).1 (fun t ht _ => ⟨rfl, ht⟩) (fun q h => by cases h) dJ0_charAt_5068e_15
