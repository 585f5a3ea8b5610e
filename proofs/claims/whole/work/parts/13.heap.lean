theorem x_goodIn {big : List Cond} (ws : List Cond) (ps : List Nat) (hp : ws = ps.filterMap (fun i => big[i]?)) (h : ws.all goodWord = true) : GoodIn big ws := by
  intro w hw
  have h1 := List.all_eq_true.mp h w hw
  rw [hp] at hw
  obtain ⟨i, -, hi⟩ := List.mem_filterMap.mp hw
  exact ⟨List.mem_of_getElem? hi, good_of_word h1⟩
theorem uw_0 : GoodIn lw_tbl (u_ws RX0 TX0 8) := x_goodIn _ [300, 302, 304, 306, 308, 310, 312, 314] (by decide +kernel) (by decide +kernel)
theorem uw_1 : GoodIn lw_tbl (u_ws RX1 TX1 7) := x_goodIn _ [271, 273, 275, 277, 279, 281, 283] (by decide +kernel) (by decide +kernel)
theorem uw_2 : GoodIn lw_tbl (u_ws RX2 TX2 3) := x_goodIn _ [346, 348, 350] (by decide +kernel) (by decide +kernel)
theorem uw_3 : GoodIn lw_tbl (u_ws RX3 TX3 4) := x_goodIn _ [255, 257, 259, 261] (by decide +kernel) (by decide +kernel)
theorem uw_4 : GoodIn lw_tbl (u_ws RX4 TX4 10) := x_goodIn _ [372, 374, 376, 378, 380, 382, 384, 386, 388, 390] (by decide +kernel) (by decide +kernel)
theorem uw_5 : GoodIn lw_tbl (u_ws RX5 TX5 4) := x_goodIn _ [327, 329, 331, 333] (by decide +kernel) (by decide +kernel)
theorem uw_6 : GoodIn lw_tbl (u_ws RX6 TX6 15) := x_goodIn _ [170, 172, 174, 176, 178, 180, 182, 184, 186, 188, 190, 192, 194, 196, 198] (by decide +kernel) (by decide +kernel)
theorem uw_7 : GoodIn lw_tbl (u_ws RX7 TX7 8) := x_goodIn _ [222, 224, 226, 228, 230, 232, 234, 236] (by decide +kernel) (by decide +kernel)
theorem uw_8 : GoodIn lw_tbl (u_ws RX8 TX8 12) := x_goodIn _ [405, 407, 409, 411, 413, 415, 417, 419, 421, 423, 425, 427] (by decide +kernel) (by decide +kernel)
theorem uw_9 : GoodIn lw_tbl (u_ws RX9 TX9 42) := x_goodIn _ [1307, 1309, 1311, 1313, 1315, 1317, 1319, 1321, 1323, 1325, 1327, 1329, 1331, 1333, 1335, 1337, 1339, 1341, 1343, 1345, 1347, 1349, 1351, 1353, 1355, 1357, 1359, 1361, 1363, 1365, 1367, 1369, 1371, 1373, 1375, 1377, 1379, 1381, 1383, 1385, 1387, 1389] (by decide +kernel) (by decide +kernel)
theorem xuw : ∀ c, c < 10 → ∀ w ∈ u_ws (xcn c).1 (xcn c).2.1 (xcn c).2.2, w ∈ xW := by
  intro c hc w hw
  have key : ∀ (C : String) (T : u_T) (N : Nat), GoodIn lw_tbl (u_ws C T N) → ((u_ws C T N).all goodWord = true) → w ∈ u_ws C T N → w ∈ xW := fun C T N g h hw => xW_in (g w hw).1 (List.all_eq_true.mp h w hw)
  match c, hc with
  | 0, _ => exact key _ _ _ uw_0 (by decide +kernel) hw
  | 1, _ => exact key _ _ _ uw_1 (by decide +kernel) hw
  | 2, _ => exact key _ _ _ uw_2 (by decide +kernel) hw
  | 3, _ => exact key _ _ _ uw_3 (by decide +kernel) hw
  | 4, _ => exact key _ _ _ uw_4 (by decide +kernel) hw
  | 5, _ => exact key _ _ _ uw_5 (by decide +kernel) hw
  | 6, _ => exact key _ _ _ uw_6 (by decide +kernel) hw
  | 7, _ => exact key _ _ _ uw_7 (by decide +kernel) hw
  | 8, _ => exact key _ _ _ uw_8 (by decide +kernel) hw
  | 9, _ => exact key _ _ _ uw_9 (by decide +kernel) hw
  | n + 10, h => exact absurd h (by omega)
theorem xalive_iff {A : Nat × Nat × Nat} {o : Nat} : xalive A o = true ↔ o < A.1 ∨ (112 ≤ o ∧ o < A.2.1) ∨ (158 ≤ o ∧ o < A.2.2) := by
  unfold xalive
  rw [Bool.or_eq_true, Bool.or_eq_true, Bool.and_eq_true, Bool.and_eq_true, Nat.blt_eq, Nat.blt_eq, Nat.blt_eq, Nat.ble_eq, Nat.ble_eq, or_assoc]
def xids (σ : xH) : List Nat := (List.range 204).filter (fun id => Nat.ble 9 id && xalive σ.2.2.2.1 id)
def xwsl (G : xG) (ρ : Nat → Nat) (σ : xH) : va_W := (xids σ).map (fun id => (ρ id, xentry G ρ σ id))
theorem xids_mem {G : xG} {base : Nat} {f : Nat → Nat → Int32} {N : Nat} {ρ : Nat → Nat} {σ : xH} {H : Heap} (hR : xRel G base f N ρ σ H) {id : Nat} : id ∈ xids σ ↔ xnew σ id := by
  unfold xids xnew
  rw [List.mem_filter, List.mem_range, Bool.and_eq_true, Nat.ble_eq]
  constructor
  · exact fun h => h.2
  · intro h
    refine ⟨?_, h⟩
    have hb := hR.2.2.2.2.1
    have := xalive_iff.mp h.2
    omega
theorem xids_nd (σ : xH) : (xids σ).Nodup := List.Pairwise.filter _ List.nodup_range
theorem xwsl_at {G : xG} {ρ : Nat → Nat} {σ : xH} {k : Nat} {q : Nat × va_E} (h : (xwsl G ρ σ)[k]? = some q) : ∃ id, (xids σ)[k]? = some id ∧ q = (ρ id, xentry G ρ σ id) := by
  unfold xwsl at h
  rw [List.getElem?_map] at h
  cases hk : (xids σ)[k]? with
  | none => rw [hk] at h; cases h
  | some id => rw [hk] at h; exact ⟨id, rfl, (Option.some.inj h).symm⟩
theorem xwsl_of {G : xG} {ρ : Nat → Nat} {σ : xH} {k id : Nat} (h : (xids σ)[k]? = some id) : (xwsl G ρ σ)[k]? = some (ρ id, xentry G ρ σ id) := by
  unfold xwsl
  rw [List.getElem?_map, h]
  rfl
theorem xids_of {G : xG} {base : Nat} {f : Nat → Nat → Int32} {N : Nat} {ρ : Nat → Nat} {σ : xH} {H : Heap} (hR : xRel G base f N ρ σ H) {id : Nat} (h : xnew σ id) : ∃ k : Nat, (xids σ)[k]? = some id := List.getElem?_of_mem ((xids_mem hR).mpr h)
theorem xwsl_P {G : xG} {base : Nat} {f : Nat → Nat → Int32} {N : Nat} {ρ : Nat → Nat} {σ : xH} {H : Heap} (hR : xRel G base f N ρ σ H) : va_P G.1 vwCl (xwsl G ρ σ) H := fun k q hq => by
  obtain ⟨id, h1, rfl⟩ := xwsl_at hq
  exact hR.1 id ((xids_mem hR).mp (List.mem_of_getElem? h1))
theorem xwsl_D {G : xG} {base : Nat} {f : Nat → Nat → Int32} {N : Nat} {ρ : Nat → Nat} {σ : xH} {H : Heap} (hR : xRel G base f N ρ σ H) : va_D (xA base) (xwsl G ρ σ) := by
  refine ⟨fun i j p q hi hj hpq => ?_, fun k q hq => ?_⟩
  · obtain ⟨a, h1, rfl⟩ := xwsl_at hi
    obtain ⟨a', h2, rfl⟩ := xwsl_at hj
    have e : a = a' := hR.2.1 _ _ ((xids_mem hR).mp (List.mem_of_getElem? h1)) ((xids_mem hR).mp (List.mem_of_getElem? h2)) hpq
    subst e
    exact (List.getElem?_inj (List.getElem?_eq_some_iff.mp h1).1 (xids_nd σ)).mp (h1.trans h2.symm)
  · obtain ⟨id, h1, rfl⟩ := xwsl_at hq
    exact hR.2.2.1 id ((xids_mem hR).mp (List.mem_of_getElem? h1))
theorem xset_out {G : xG} {base : Nat} {f : Nat → Nat → Int32} {N : Nat} {ρ : Nat → Nat} {σ : xH} {H H1 : Heap} (hR : xRel G base f N ρ σ H) {k id : Nat} (hk : (xids σ)[k]? = some id) {e' : va_E} (hP : va_P G.1 vwCl ((xwsl G ρ σ).set k (ρ id, e')) H1) :
    va_at G.1 vwCl (ρ id, e') H1 ∧ ∀ j, xnew σ j → j ≠ id → va_at G.1 vwCl (ρ j, xentry G ρ σ j) H1 := by
  have hlt : k < (xwsl G ρ σ).length := (List.getElem?_eq_some_iff.mp (xwsl_of (G := G) (ρ := ρ) hk)).1
  refine ⟨hP k _ (List.getElem?_set_self hlt), fun j hj hne => ?_⟩
  obtain ⟨k', hk'⟩ := xids_of hR hj
  have hn : k ≠ k' := fun e => by
    subst e
    rw [hk] at hk'
    exact hne (Option.some.inj hk').symm
  exact hP k' _ (by rw [List.getElem?_set_ne hn]; exact xwsl_of hk')
/-- an int write -/
theorem xRel_I {G : xG} {base : Nat} {f : Nat → Nat → Int32} {N : Nat} {ρ : Nat → Nat} {σ : xH} {H H1 : Heap} (hR : xRel G base f N ρ σ H) {id : Nat} {I' : xI} (hid : xnew σ id) (hI : ∀ j, j ≠ id → I' j = σ.1 j)
    (h : va_at G.1 vwCl (ρ id, xentry G ρ (I', σ.2) id) H1 ∧ ∀ j, xnew σ j → j ≠ id → va_at G.1 vwCl (ρ j, xentry G ρ σ j) H1) : xRel G base f N ρ (I', σ.2) H1 := by
  obtain ⟨r1, r2, r3, r4, r5, r6, r7⟩ := hR
  have h9 := hid.1
  refine ⟨fun j hj => ?_, r2, r3, r4, r5, ⟨(hI 0 (by omega)).trans r6.1, (hI 1 (by omega)).trans r6.2.1, (hI 2 (by omega)).trans r6.2.2.1, r6.2.2.2⟩, r7⟩
  by_cases e : j = id
  · rw [e]; exact h.1
  · have e2 : xentry G ρ (I', σ.2) j = xentry G ρ σ j := by
      unfold xentry xfval xrow_of
      simp only [hI j e]
    rw [e2]
    exact h.2 j hj e
theorem xRel_L {G : xG} {base : Nat} {f : Nat → Nat → Int32} {N : Nat} {ρ : Nat → Nat} {σ : xH} {H H1 : Heap} (hR : xRel G base f N ρ σ H) {id : Nat} {L' : xL} (hL : ∀ j, j ≠ id → L' j = σ.2.1 j)
    (h : va_at G.1 vwCl (ρ id, xentry G ρ (σ.1, L', σ.2.2) id) H1 ∧ ∀ j, xnew σ j → j ≠ id → va_at G.1 vwCl (ρ j, xentry G ρ σ j) H1) : xRel G base f N ρ (σ.1, L', σ.2.2) H1 := by
  obtain ⟨r1, r2, r3, r4, r5, r6, r7⟩ := hR
  refine ⟨fun j hj => ?_, r2, r3, r4, r5, r6, r7⟩
  by_cases e : j = id
  · rw [e]; exact h.1
  · have e2 : xentry G ρ (σ.1, L', σ.2.2) j = xentry G ρ σ j := by
      unfold xentry xfval xrow_of
      simp only [hL j e]
    rw [e2]
    exact h.2 j hj e
theorem xRel_R {G : xG} {base : Nat} {f : Nat → Nat → Int32} {N : Nat} {ρ : Nat → Nat} {σ : xH} {H H1 : Heap} (hR : xRel G base f N ρ σ H) {id k v : Nat} (hv : xalive σ.2.2.2.1 v = true)
    (h : va_at G.1 vwCl (ρ id, xentry G ρ (σ.1, σ.2.1, xwr σ.2.2.1 id k (some v), σ.2.2.2) id) H1 ∧ ∀ j, xnew σ j → j ≠ id → va_at G.1 vwCl (ρ j, xentry G ρ σ j) H1) : xRel G base f N ρ (σ.1, σ.2.1, xwr σ.2.2.1 id k (some v), σ.2.2.2) H1 := by
  obtain ⟨r1, r2, r3, r4, r5, r6, r7⟩ := hR
  have hrow : ∀ j, j ≠ id → xnth [] (xwr σ.2.2.1 id k (some v)) j = xnth [] σ.2.2.1 j := fun j hj => by
    rw [xwr, xnth_xset, if_neg (fun q => hj q.1)]
  refine ⟨fun j hj => ?_, r2, r3, fun j k' q hj hq => ?_, r5, r6, ?_, fun j hj hk => ?_⟩
  · by_cases e : j = id
    · rw [e]; exact h.1
    · have e2 : xentry G ρ (σ.1, σ.2.1, xwr σ.2.2.1 id k (some v), σ.2.2.2) j = xentry G ρ σ j := by
        unfold xentry xfval xrow_of
        simp only [hrow j e]
      rw [e2]
      exact h.2 j hj e
  · by_cases e : j = id
    · subst e
      have hq' : xnth none (xnth [] (xwr σ.2.2.1 j k (some v)) j) k' = some q := hq
      rw [xwr, xnth_xset] at hq'
      split at hq'
      · rw [xnth_xset] at hq'
        split at hq'
        · cases hq'; exact hv
        · exact r4 j k' q hj hq'
      · exact r4 j k' q hj hq'
    · exact r4 j k' q hj (by rw [← hrow j e]; exact hq)
  · show 204 ≤ (xwr σ.2.2.1 id k (some v)).length
    rw [xwr, xset_len]
    exact r7.1
  · show (xnth [] (xwr σ.2.2.1 id k (some v)) j).length = _
    by_cases e : j = id
    · subst e
      rw [xwr, xnth_xset]
      split
      · rw [xset_len]; exact r7.2 j hj hk
      · exact r7.2 j hj hk
    · rw [hrow j e]; exact r7.2 j hj hk
theorem xkinds : ∀ id, id < 9 → ¬ xkind id < 10 ∧ xkind id ≠ 20 ∧ xkind id ≠ 21 ∧ xkind id ≠ 22 ∧ xkind id ≠ 23 := by decide +kernel
theorem xslots_ok : ∀ id, id < 204 → xkind id < 10 → xslots id = (xcn (xkind id)).2.2 := by decide +kernel
theorem xlow_kind {id k : Nat} (h : xkind id = k) (hk : k < 10 ∨ k = 20 ∨ k = 21 ∨ k = 22 ∨ k = 23) : 9 ≤ id := by
  rcases Nat.lt_or_ge id 9 with q | q
  · obtain ⟨h1, h2, h3, h4, h5⟩ := xkinds id q
    omega
  · exact q
theorem xis_iff {σ : xH} {o k : Nat} (h : xis σ o k = true) : xalive σ.2.2.2.1 o = true ∧ xkind o = k := by
  unfold xis at h
  rw [Bool.and_eq_true] at h
  exact ⟨h.1, Nat.eq_of_beq_eq_true h.2⟩
theorem xalive_204 {G : xG} {base : Nat} {f : Nat → Nat → Int32} {N : Nat} {ρ : Nat → Nat} {σ : xH} {H : Heap} (hR : xRel G base f N ρ σ H) {o : Nat} (h : xalive σ.2.2.2.1 o = true) : o < 204 := by
  have hb := hR.2.2.2.2.1
  have := xalive_iff.mp h
  omega
theorem xentry_o {G : xG} {ρ : Nat → Nat} {σ : xH} {id : Nat} (h : xkind id < 10) : xentry G ρ σ id = .inr (xkind id, (List.range (xslots id)).map (xfval ρ σ id)) := if_pos h
theorem xentry_20 {G : xG} {ρ : Nat → Nat} {σ : xH} {id : Nat} (h : xkind id = 20) : xentry G ρ σ id = .inl (G.2.1, xslots id, .inl (σ.1 id)) := by
  unfold xentry
  rw [if_neg (by omega), if_pos h]
theorem xentry_21 {G : xG} {ρ : Nat → Nat} {σ : xH} {id : Nat} (h : xkind id = 21) : xentry G ρ σ id = .inl (G.2.2.1, xslots id, .inr (.inl (σ.2.1 id))) := by
  unfold xentry
  rw [if_neg (by omega), if_neg (by omega), if_pos h]
theorem xentry_22 {G : xG} {ρ : Nat → Nat} {σ : xH} {id : Nat} (h : xkind id = 22) : xentry G ρ σ id = .inl (G.2.2.2.1, xslots id, .inr (.inr (.inr (.inr (xrow_of ρ σ id))))) := by
  unfold xentry
  rw [if_neg (by omega), if_neg (by omega), if_neg (by omega), if_pos h]
theorem xentry_23 {G : xG} {ρ : Nat → Nat} {σ : xH} {id : Nat} (h : xkind id = 23) : xentry G ρ σ id = .inl (G.2.2.2.2, xslots id, .inr (.inr (.inr (.inr (xrow_of ρ σ id))))) := by
  unfold xentry
  rw [if_neg (by omega), if_neg (by omega), if_neg (by omega), if_neg (by omega)]
theorem xlen_eq {N o : Nat} (h : 0 < o) : xlen N o = xslots o := by
  unfold xlen xslots
  rw [show Nat.beq o 0 = false by cases o with | zero => omega | succ o => rfl]
  rfl
theorem xnth_list {α : Type} {d : α} : ∀ (l : List α) (k : Nat), xnth d l k = l[k]?.getD d
  | [], _ => rfl
  | _ :: _, 0 => rfl
  | _ :: t, k + 1 => xnth_list t k
theorem xvw : ∀ c, vwCl[c]? = some (xcn c) → c < 10 := fun c h => (List.getElem?_eq_some_iff.mp h).1
theorem xtyok : ∀ c, c < 10 → ∀ k, k < (xcn c).2.2 → parseFieldDescriptor ((xcn c).2.1 k).2.2.1 = some (xfty c k) := by
  intro c hc
  match c, hc with
  | 0, _ => exact tyX0_ok
  | 1, _ => exact tyX1_ok
  | 2, _ => exact tyX2_ok
  | 3, _ => exact tyX3_ok
  | 4, _ => exact tyX4_ok
  | 5, _ => exact tyX5_ok
  | 6, _ => exact tyX6_ok
  | 7, _ => exact tyX7_ok
  | 8, _ => exact tyX8_ok
  | 9, _ => exact tyX9_ok
  | n + 10, h => exact absurd h (by omega)
theorem xnmok : ∀ c, c < 10 → ∀ a, a < (xcn c).2.2 → ∀ b, b < (xcn c).2.2 → a ≠ b → ((xcn c).2.1 a).2.1 ≠ ((xcn c).2.1 b).2.1 := by
  intro c hc
  match c, hc with
  | 0, _ => exact nmX0
  | 1, _ => exact nmX1
  | 2, _ => exact nmX2
  | 3, _ => exact nmX3
  | 4, _ => exact nmX4
  | 5, _ => exact nmX5
  | 6, _ => exact nmX6
  | 7, _ => exact nmX7
  | 8, _ => exact nmX8
  | 9, _ => exact nmX9
  | n + 10, h => exact absurd h (by omega)
