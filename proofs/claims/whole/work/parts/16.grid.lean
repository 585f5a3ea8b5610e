theorem arrV_ext {c N : Nat} {f g : Nat → Value} (h : ∀ j, j < N → f j = g j) : arrV c N f = arrV c N g := by
  unfold arrV
  refine congrArg (fun z => ({ cls := c, slots := z, vm := .none } : Cell)) ?_
  refine Array.ext (by simp) (fun i h1 h2 => ?_)
  have hi : i < N := by simpa using h1
  simp [h i hi]
/-- the outer row with j of its places filled -/
def xouter (G : xG) (cI n q : Nat) (r : Nat → Nat) (j : Nat) : Cell := arrV cI n (fun i => va_rf (if i < j then some (r i) else none))
theorem xset_ne {H : Heap} {a b : Nat} {x : Cell} (h : b ≠ a) : (H.setIfInBounds a x)[b]? = H[b]? := by
  rw [Array.getElem?_setIfInBounds, if_neg (fun e => h e.symm)]
theorem xset_eq {H : Heap} {a : Nat} {x : Cell} (h : a < H.size) : (H.setIfInBounds a x)[a]? = some x := by
  rw [Array.getElem?_setIfInBounds, if_pos rfl, if_pos h]
theorem xgrid_make {G : xG} {base : Nat} {f : Nat → Nat → Int32} {N o n q cI : Nat} {r : Nat → Nat} {υ : xH} {H1 : Heap}
    (ho : xkind o = 22 ∨ xkind o = 23) (hcI : ∀ (ρ : Nat → Nat) (σ : xH) (H : Heap), va_at G.1 vwCl (q, xentry G ρ σ o) H ↔ H[q]? = some (arrV cI n (fun i => va_rf (xrow_of ρ σ o i))))
    (hq : q < H1.size) (hbr : ∀ i, i < n → base ≤ r i) (hrq : ∀ i, i < n → r i ≠ q) (hrr : ∀ i j, i < n → j < n → r i = r j → i = j)
    (hrow : ∀ i, i < n → ∀ (ρ : Nat → Nat) (σ τ : xH), xalloc σ (o + 1 + i) = some τ → va_at G.1 vwCl (r i, xentry G ρ τ (o + 1 + i)) H1) :
    ∀ (k j : Nat) (ρ : Nat → Nat) (σ : xH), j + k = n → xallocs k o (o + 1 + j) σ = some υ → xRel G base f N ρ σ (H1.setIfInBounds q (xouter G cI n q r j)) → xnew σ o → ρ o = q → (∀ a, xnew σ a → ∀ i, j ≤ i → i < n → ρ a ≠ r i) → (∀ i, i < n → xrow_of ρ σ o i = if i < j then some (r i) else none) → (xnth [] σ.2.2.1 o).length = n →
      ∃ ρ', xRel G base f N ρ' υ (H1.setIfInBounds q (xouter G cI n q r n)) ∧ xext ρ σ ρ' υ
  | 0, j, ρ, σ, hj, ha, hR, hn, hρ, hf, hro, hl => by
    have e : j = n := by omega
    subst e
    cases ha
    exact ⟨ρ, hR, ⟨fun id h => ⟨h, rfl⟩, fun z hz => rfl⟩⟩
  | k + 1, j, ρ, σ, hj, ha, hR, hn, hρ, hf, hro, hl => by
    have hjn : j < n := by omega
    unfold xallocs at ha
    cases hal : xalloc σ (o + 1 + j) with
    | none => rw [hal] at ha; cases ha
    | some τ =>
      rw [hal] at ha
      have hat := hrow j hjn (xup ρ (o + 1 + j) (r j)) σ τ hal
      have hat' : va_at G.1 vwCl (r j, xentry G (xup ρ (o + 1 + j) (r j)) τ (o + 1 + j)) (H1.setIfInBounds q (xouter G cI n q r j)) := hat.kept (xset_ne (hrq j hjn))
      obtain ⟨hR1, hx1, hal1, h9, hup⟩ := xRel_newA hR hal (r j) (hbr j hjn) (fun a ha' => hf a ha' j (Nat.le_refl _) hjn) (fun _ _ => rfl) hat'
      obtain ⟨A, hA, hτ⟩ := xalloc_spec hal
      have hso := hR.2.2.2.2.2.2.1
      have hne : o ≠ o + 1 + j := by omega
      have hrowo : xnth [] τ.2.2.1 o = xnth [] σ.2.2.1 o := by rw [hτ]; dsimp only; rw [xnth_xset, if_neg (fun z => hne z.1)]
      have hoA : xalive τ.2.2.2.1 o = true := (hx1.1 o hn.2).1
      have ho204 : o < τ.2.2.1.length := Nat.lt_of_lt_of_le (xalive_204 hR1 hoA) hR1.2.2.2.2.2.2.1
      have hρ1 : xup ρ (o + 1 + j) (r j) o = q := (hup o hn.2).trans hρ
      have hself : xup ρ (o + 1 + j) (r j) (o + 1 + j) = r j := if_pos rfl
      have e1 : o + 1 + j - (o + 1) = j := by omega
      rw [e1] at ha
      have hro' : ∀ i, i < n → xrow_of (xup ρ (o + 1 + j) (r j)) (τ.1, τ.2.1, xwr τ.2.2.1 o j (some (o + 1 + j)), τ.2.2.2) o i = if i < j + 1 then some (r i) else none := fun i hi => by
        unfold xrow_of
        dsimp only
        rw [xwr, xnth_xset, if_pos ⟨rfl, ho204⟩, xnth_xset]
        by_cases e : i = j
        · subst e
          rw [if_pos ⟨rfl, by rw [hrowo, hl]; exact hi⟩, if_pos (by omega)]
          exact congrArg some hself
        · rw [if_neg (fun z => e z.1), hrowo]
          have h0 := hro i hi
          unfold xrow_of at h0
          have hcl := hR.2.2.2.1 o i
          cases hq : xnth none (xnth [] σ.2.2.1 o) i with
          | none =>
            rw [hq] at h0
            by_cases e2 : i < j
            · rw [if_pos e2] at h0; cases h0
            · rw [if_neg (by omega)]; rfl
          | some a =>
            rw [hq] at h0
            have := hup a (hcl a hn hq)
            by_cases e2 : i < j
            · rw [if_pos e2] at h0
              rw [if_pos (by omega), ← h0]
              exact congrArg some this
            · rw [if_neg e2] at h0; cases h0
      have hnot : ∀ a, xnew τ a → a ≠ o → xup ρ (o + 1 + j) (r j) a ≠ q := fun a hna e z => e (hR1.2.1 a o hna ⟨hn.1, hoA⟩ (z.trans hρ1.symm))
      have hR2 : xRel G base f N (xup ρ (o + 1 + j) (r j)) (τ.1, τ.2.1, xwr τ.2.2.1 o j (some (o + 1 + j)), τ.2.2.2) (H1.setIfInBounds q (xouter G cI n q r (j + 1))) := by
        refine xRel_R hR1 hal1 ⟨?_, fun a hna e => (hR1.1 a hna).kept (by rw [xset_ne (hnot a hna e), xset_ne (hnot a hna e)])⟩
        rw [hρ1, hcI, xset_eq hq]
        unfold xouter
        refine congrArg some (arrV_ext fun i hi => ?_)
        rw [hro' i hi]
      obtain ⟨ρ', h1, h2⟩ := xgrid_make ho hcI hq hbr hrq hrr hrow k (j + 1) _ _ (by omega) (by rw [show o + 1 + (j + 1) = o + 1 + j + 1 by omega]; exact ha) hR2 ⟨hn.1, hoA⟩ hρ1 (fun a hna i hi hin' => by
        by_cases e : a = o + 1 + j
        · rw [e, hself]
          intro z
          have := hrr j i hjn hin' z
          omega
        · have hna' : xnew σ a := ⟨hna.1, by
            have h3 := (xnx_spec hA hR.2.2.2.2.1).1 a
            have h4 : xalive A a = true := by have := hna.2; rw [hτ] at this; exact this
            exact (h3.mp h4).resolve_right e⟩
          rw [hup a hna'.2]
          exact hf a hna' i (by omega) hin') hro' (by
        show (xnth [] (xwr τ.2.2.1 o j (some (o + 1 + j))) o).length = n
        rw [xwr, xnth_xset, if_pos ⟨rfl, ho204⟩, xset_len, hrowo, hl])
      exact ⟨ρ', h1, xext_trans hx1 h2⟩

theorem x_mna {p : Program} {l : Launch} {e : Env} {R : Room} {s : State} {m : MethodId} {args : Array Value} {below : List Frame} {meth : Method} {c : Code} {H : Heap} {locs : List Loc} {cells slots : Nat} {Q : State → Prop} {cc : ByteArray} {pc : Nat} {ls : Array Slot} {rest : List Value} (hexec : p.tables.exec = Jvm.exec) (hb : c.code = cc) {own : String} {index : Nat} {ty : FieldType} {cA0 cy : ClassId} (hown : s.vm.findClass own = some m.cls) (hclink : (Cond.classLink own index ("[" ++ (FieldType.array ty).toString)).before args s = true) (hover : va_AOA ty s) (harr : (Cond.arrayClass ty).before args s = true) (hcA : s.vm.findClass ("[" ++ (FieldType.array ty).toString) = some cA0) (hcy : s.vm.findClass (FieldType.array ty).toString = some cy)
    {n k : Int32} {N' K' : Nat} {z : vp_A} (hn : ¬ n < 0) (hk : ¬ k < 0) (hN : n.toNatClampNeg = N') (hM : k.toNatClampNeg = K')
    (hb1 : N' * 4 ≤ 536870912) (hb2 : K' * componentBytes ty ≤ 536870912) (hb3 : K' ≤ 536870912) (hdf : fits ty (defaultValue ty) = true) (hdd : (defaultValue ty).isDefault = true) (hcells : cells + (1 + N') ≤ R.cells) (hslots : slots + (N' + N' * K') ≤ R.slots) (hz : ∀ c : ClassId, Jvm.Free.Multi.innerC c K' (defaultValue ty) = vp_cell c z) (hdg : decode cc pc = .ok (.multianewarray index 2, 4))
    (kk : ∀ F : Heap, H.size < F.size → F[H.size]? = some (arrV cA0 N' (fun i => va_rf (if i < N' then some (H.size + 1 + i) else none))) → (∀ j, j < N' → F[H.size + 1 + j]? = some (vp_cell cy z)) → (∀ x, x < H.size → F[x]? = H[x]?) → W p l e R s m args below meth c F locs (cells + 1 + N') (slots + N' + N' * K') Q (F0 m (pc + 4) ls (.ref H.size :: rest))) : W p l e R s m args below meth c H locs cells slots Q (F0 m pc ls (.int k :: .int n :: rest)) := by
  subst hN
  subst hM
  intro T hT Xs
  obtain ⟨vm₁, cA, comp, -, fA, fC, hO, -, X', step⟩ := Xs.multianewarray2F hexec hown hclink (va_AOA.use hover) harr (g := F0 m pc ls (.int k :: .int n :: rest)) rfl (by rw [hb]; exact hdg) rfl hn hk hb1 hb2 hb3 hdf hdd hcells hslots
  cases hcy.symm.trans fC
  cases hcA.symm.trans fA
  generalize hF : Jvm.Free.Multi.fill (T.setVm vm₁) cA0 cy n.toNatClampNeg k.toNatClampNeg (defaultValue ty) n.toNatClampNeg = F at X' step
  have hTh : (T.setVm vm₁).heap = H := hT
  obtain ⟨f1, f2, -, -⟩ := Jvm.Free.Multi.fill_facts (T.setVm vm₁) cA0 cy n.toNatClampNeg k.toNatClampNeg (defaultValue ty) n.toNatClampNeg
  rw [hF, hTh] at f1 f2
  rw [vr_outer] at f2
  obtain ⟨t, a1, b1⟩ := kk F.heap (by rw [f1]; omega) f2 (fun j hj => by
    have := Jvm.Free.Multi.fill_inner (T.setVm vm₁) cA0 cy n.toNatClampNeg k.toNatClampNeg (defaultValue ty) n.toNatClampNeg j hj
    rw [hF, hTh, hz] at this
    exact this) (fun x hx => by
    have := Jvm.Free.Multi.fill_old (T.setVm vm₁) cA0 cy n.toNatClampNeg k.toNatClampNeg (defaultValue ty) (a := x) (by rw [hTh]; exact hx) n.toNatClampNeg
    rw [hF, hTh] at this
    exact this) F rfl X'
  refine ⟨t, step t ?_, b1⟩
  have e : T.heap.size = H.size := by rw [hT]
  rw [e]
  exact a1
theorem xrows_at : ∀ (n id c k : Nat), xrows n id c k = true → ∀ i, i < n → xkind (id + i) = c ∧ xslots (id + i) = k
  | 0, _, _, _, _, _, h => by omega
  | n + 1, id, c, k, h, i, hi => by
    simp only [xrows, Bool.and_eq_true] at h
    cases i with
    | zero => exact ⟨Nat.eq_of_beq_eq_true h.1.1, Nat.eq_of_beq_eq_true h.1.2⟩
    | succ i =>
      have := xrows_at n (id + 1) c k h.2 i (by omega)
      rwa [show id + 1 + i = id + (i + 1) by omega] at this
theorem xkind_big : ∀ id, 204 ≤ id → xkind id = 99 := fun id h => by
  unfold xkind
  rw [xnth_list, List.getElem?_eq_none (by exact h)]
  rfl
theorem xslots_22 : ∀ id, id < 204 → (xkind id = 22 ∨ xkind id = 23) → xslots id ≠ 0 := by decide +kernel
set_option maxHeartbeats 4000000 in
theorem xs_mna {p : Program} {l : Launch} {e : Env} {R : Room} {s : State} {m : MethodId} {args : Array Value} {below : List Frame} {meth : Method} {c : Code} {Qf : State → Prop} {G : xG} {base : Nat} {f : Nat → Nat → Int32} {N : Nat} {ρ0 : Nat → Nat} {σ0 : xH} {adV : Nat → Nat} {cc : ByteArray} {own : String} {ini : Bool} {nL mc ms d : Nat} {Ts : List Cond} (X : xCtx p R s m args meth c G base f N ρ0 adV cc own ini nL mc ms d Ts) {T : List (List (Option xE))} {rt : Nat} {C : xC} {Q : xQ} (hT : xallT (xwP own ini) T) (hD : xdecT cc 0 T = true) {pc : Nat} {ls : List (Option Value)} {st : List Value} {σ : xH} {b : Nat × Nat} {i dm : Nat} {len : Nat} {v : Int32} {ax : List Nat} (hf : xfetch T pc = some (.multianewarray i dm, len, v, ax)) (h : xstp T rt C Q (xKM p l e R s m args below meth c Qf G base f N ρ0 σ0 nL mc ms) pc ls st σ b) : (xKM p l e R s m args below meth c Qf G base f N ρ0 σ0 nL mc ms) pc ls st σ b := by
  obtain ⟨hx, hb, hml, hown, hts, hW, hO, hcs, hfr, hin⟩ := X
  obtain ⟨hd, hwb, hj⟩ := xdecT_at hD hf
  have hw := xallT_at hT hf
  unfold xstp at h
  rw [hf] at h
  dsimp only at h hd
  have h1 : len = 4 := Nat.eq_of_beq_eq_true hwb
  subst h1
  split at h
  · rename_i c' n k' rel off y x r
    have hw : dm = 2 ∧ ((c' = 22 ∧ Cond.classLink own i "[[I" ∈ xW) ∨ (c' = 23 ∧ Cond.classLink own i "[[J" ∈ xW)) := hw
    obtain ⟨rfl, hw2⟩ := hw
    generalize xid ls rel off = id at h
    cases hi : Nat.beq (xkind id) c' && Nat.beq n (xnth (99, 0) xSh id).2 && xrows n (id + 1) (c' - 2) k' && decide (x = Int32.ofNat n) && decide (y = Int32.ofNat k') && Nat.ble (1 + n) b.1 && Nat.ble (n + n * k') b.2 with
    | false => rw [hi] at h; exact h.elim
    | true =>
      rw [hi] at h
      simp only [Bool.and_eq_true, Nat.ble_eq, decide_eq_true_eq] at hi
      obtain ⟨⟨⟨⟨⟨⟨hkd, hnn⟩, hrw⟩, hxe⟩, hye⟩, hb1⟩, hb2⟩ := hi
      have hkd := Nat.eq_of_beq_eq_true hkd
      have hnn : n = xslots id := Nat.eq_of_beq_eq_true hnn
      have hxe : x = nI n := hxe
      have hye : y = nI k' := hye
      cases ha : xalloc σ id with
      | none => rw [ha] at h; exact h.elim
      | some τ =>
      rw [ha] at h
      simp only [cond_true] at h
      cases hb5 : xallocs n id (id + 1) τ with
      | none => rw [hb5] at h; exact h.elim
      | some υ =>
        rw [hb5] at h
        intro ρ H locs cells slots mls hR hS hc hs hn hl hlo hst hE
        obtain ⟨A, hA, hτ⟩ := xalloc_spec ha
        have hid := (xnx_spec hA hR.2.2.2.2.1).2.2.2.1
        have h5000 := xslots_small id hid
        have hk5 : k' ≤ 5000 ∨ n = 0 := by
          rcases Nat.eq_zero_or_pos n with q | q
          · exact Or.inr q
          · have h6 := xrows_at n (id + 1) _ k' hrw 0 q
            have h7 : id + 1 + 0 < 204 := by
              rcases Nat.lt_or_ge (id + 1 + 0) 204 with z | z
              · exact z
              · have := xkind_big _ z
                rw [this] at h6
                omega
            have := xslots_small _ h7
            exact Or.inl (by omega)
        have hk5 : k' ≤ 5000 := by
          rcases hk5 with q | q
          · exact q
          · exact absurd (hnn.symm.trans q) (xslots_22 id hid (by omega))
        have hx0 : ¬ x < 0 := by rw [hxe]; exact nI_pos (by omega)
        have hy0 : ¬ y < 0 := by rw [hye]; exact nI_pos (by omega)
        have hxN : x.toNatClampNeg = n := by rw [hxe]; exact nI_clamp (by omega)
        have hyK : y.toNatClampNeg = k' := by rw [hye]; exact nI_clamp (by omega)
        rcases hw2 with ⟨e22, hw3⟩ | ⟨e22, hw3⟩
        · subst e22
          refine x_mna (ty := .int) (cA0 := G.2.2.2.1) (cy := G.2.1) (z := (k', .inl (fun _ => 0))) hx hb hown (by rw [show ("[" ++ (FieldType.array .int).toString) = "[[I" from by decide]; exact hts _ (hW _ hw3)) (hO.2.2.1) (hts _ (hW _ xw_arrI)) (hO.2.1.2 2 _ rfl).2 (hO.2.1.2 0 _ rfl).2 hx0 hy0 hxN hyK (by omega) (by show k' * 4 ≤ _; omega) (by omega) rfl rfl (by have := hcs.1; omega) (by have := hcs.2; omega) (fun cc' => by
            rw [vp_cell_i, ← arrV_new]
            rfl) hd (fun F hFs hFo hFr hFold => ?_)
          have hup : xup ρ id H.size id = H.size := if_pos rfl
          have hltH : ∀ j, xnew σ j → ρ j < H.size := fun j hj => (hR.1 j hj).lt
          have hat0 : va_at G.1 vwCl (H.size, xentry G (xup ρ id H.size) τ id) (F.setIfInBounds H.size (xouter G G.2.2.2.1 n H.size (fun i => H.size + 1 + i) 0)) := by
            rw [xentry_22 hkd]
            show (F.setIfInBounds H.size _)[H.size]? = some (vp_cell _ _)
            rw [xset_eq hFs, vp_cell_q, hnn]
            refine congrArg some (arrV_ext fun i hi => ?_)
            unfold xrow_of
            rw [hτ]
            dsimp only
            have hrid : xnth [] (xset σ.2.2.1 id (xrow id)) id = xrow id := by rw [xnth_xset, if_pos ⟨rfl, by have := hR.2.2.2.2.2.2.1; omega⟩]
            rw [hrid, xrow_none, if_neg (by omega)]
            rfl
          obtain ⟨hR1, hx1, hal1, h91, hup1⟩ := xRel_newA hR ha H.size (Nat.le_trans hO.1 hS.1) (fun j hj z => by have := hltH j hj; omega) (fun j hj => by rw [xset_ne (by have := hltH j hj; omega)]; exact hFold _ (hltH j hj)) hat0
          have hnewτ : ∀ a, xnew τ a → a ≠ id → xnew σ a := fun a hna e => ⟨hna.1, by
            have h3 := (xnx_spec hA hR.2.2.2.2.1).1 a
            have h4 : xalive A a = true := by have := hna.2; rw [hτ] at this; exact this
            exact (h3.mp h4).resolve_right e⟩
          obtain ⟨ρ', hR2, hx2⟩ := xgrid_make (G := G) (base := base) (f := f) (N := N) (o := id) (n := n) (q := H.size) (cI := G.2.2.2.1) (r := fun i => H.size + 1 + i) (H1 := F) (Or.inl hkd) (fun ρ2 σ2 H2 => by rw [xentry_22 hkd, ← hnn]; exact Iff.rfl) hFs (fun i hi => by have := Nat.le_trans hO.1 hS.1; omega) (fun i hi => by omega) (fun i j hi hj e => by omega) (fun i hi ρ2 σ2 τ2 hal2 => by
            obtain ⟨A2, -, hτ2⟩ := xalloc_spec hal2
            have hk2 := xrows_at n (id + 1) _ k' hrw i hi
            rw [xentry_20 hk2.1, hk2.2, hτ2]
            have h9 := hFr i hi
            show F[H.size + 1 + i]? = some (vp_cell _ _)
            rw [h9]
            refine congrArg (fun q => some (vp_cell G.2.1 (k', .inl q))) (funext fun q => ?_)
            exact (if_pos rfl).symm) n 0 _ τ (by omega) (by rw [Nat.add_zero]; exact hb5) hR1 ⟨h91, hal1⟩ hup (fun a hna i _ hi => by
            by_cases e : a = id
            · rw [e, hup]; omega
            · have h5 := hltH a (hnewτ a hna e)
              rw [hup1 a (hnewτ a hna e).2]
              omega) (fun i hi => by
            rw [if_neg (by omega)]
            unfold xrow_of
            rw [hτ]
            dsimp only
            have hrid : xnth [] (xset σ.2.2.1 id (xrow id)) id = xrow id := by rw [xnth_xset, if_pos ⟨rfl, by have := hR.2.2.2.2.2.2.1; omega⟩]
            rw [hrid, xrow_none]
            rfl) (by
            rw [hτ]
            show (xnth [] (xset σ.2.2.1 id (xrow id)) id).length = n
            rw [xnth_xset, if_pos ⟨rfl, by have := hR.2.2.2.2.2.2.1; omega⟩, xrow_len (by omega), hnn])
          have hFF : F.setIfInBounds H.size (xouter G G.2.2.2.1 n H.size (fun i => H.size + 1 + i) n) = F := by
            refine Array.ext_getElem? fun i => ?_
            by_cases e : i = H.size
            · rw [e, xset_eq hFs, hFo]; rfl
            · rw [xset_ne e]
          rw [hFF] at hR2
          have hx3 := xext_trans hx1 hx2
          have e2 : ρ' id = H.size := ((hx2.1 id hal1).2).trans hup
          have k := xKM_at (new := [.ref id]) (old := r) h hR2 (va_S_new hS (by omega) hFold) (cells := cells + 1 + n) (slots := slots + n + n * k') (by dsimp only; omega) (by dsimp only; omega) hn hl hlo (xok_t (xok_t hst)) (fun u hu => by rw [List.mem_singleton.mp hu]; exact (hx2.1 id hal1).1) hE hx3
          simp only [List.map_cons, List.map_nil, xemb, e2] at k
          exact k
        · subst e22
          refine x_mna (ty := .long) (cA0 := G.2.2.2.2) (cy := G.2.2.1) (z := (k', .inr (.inl (fun _ => 0)))) hx hb hown (by rw [show ("[" ++ (FieldType.array .long).toString) = "[[J" from by decide]; exact hts _ (hW _ hw3)) (hO.2.2.2.1) (hts _ (hW _ xw_arrJ)) (hO.2.1.2 3 _ rfl).2 (hO.2.1.2 1 _ rfl).2 hx0 hy0 hxN hyK (by omega) (by show k' * 8 ≤ _; omega) (by omega) rfl rfl (by have := hcs.1; omega) (by have := hcs.2; omega) (fun cc' => by
            rw [vp_cell_l, ← arrV_new]
            rfl) hd (fun F hFs hFo hFr hFold => ?_)
          have hup : xup ρ id H.size id = H.size := if_pos rfl
          have hltH : ∀ j, xnew σ j → ρ j < H.size := fun j hj => (hR.1 j hj).lt
          have hat0 : va_at G.1 vwCl (H.size, xentry G (xup ρ id H.size) τ id) (F.setIfInBounds H.size (xouter G G.2.2.2.2 n H.size (fun i => H.size + 1 + i) 0)) := by
            rw [xentry_23 hkd]
            show (F.setIfInBounds H.size _)[H.size]? = some (vp_cell _ _)
            rw [xset_eq hFs, vp_cell_q, hnn]
            refine congrArg some (arrV_ext fun i hi => ?_)
            unfold xrow_of
            rw [hτ]
            dsimp only
            have hrid : xnth [] (xset σ.2.2.1 id (xrow id)) id = xrow id := by rw [xnth_xset, if_pos ⟨rfl, by have := hR.2.2.2.2.2.2.1; omega⟩]
            rw [hrid, xrow_none, if_neg (by omega)]
            rfl
          obtain ⟨hR1, hx1, hal1, h91, hup1⟩ := xRel_newA hR ha H.size (Nat.le_trans hO.1 hS.1) (fun j hj z => by have := hltH j hj; omega) (fun j hj => by rw [xset_ne (by have := hltH j hj; omega)]; exact hFold _ (hltH j hj)) hat0
          have hnewτ : ∀ a, xnew τ a → a ≠ id → xnew σ a := fun a hna e => ⟨hna.1, by
            have h3 := (xnx_spec hA hR.2.2.2.2.1).1 a
            have h4 : xalive A a = true := by have := hna.2; rw [hτ] at this; exact this
            exact (h3.mp h4).resolve_right e⟩
          obtain ⟨ρ', hR2, hx2⟩ := xgrid_make (G := G) (base := base) (f := f) (N := N) (o := id) (n := n) (q := H.size) (cI := G.2.2.2.2) (r := fun i => H.size + 1 + i) (H1 := F) (Or.inr hkd) (fun ρ2 σ2 H2 => by rw [xentry_23 hkd, ← hnn]; exact Iff.rfl) hFs (fun i hi => by have := Nat.le_trans hO.1 hS.1; omega) (fun i hi => by omega) (fun i j hi hj e => by omega) (fun i hi ρ2 σ2 τ2 hal2 => by
            obtain ⟨A2, -, hτ2⟩ := xalloc_spec hal2
            have hk2 := xrows_at n (id + 1) _ k' hrw i hi
            rw [xentry_21 hk2.1, hk2.2, hτ2]
            have h9 := hFr i hi
            show F[H.size + 1 + i]? = some (vp_cell _ _)
            rw [h9]
            refine congrArg (fun q => some (vp_cell G.2.2.1 (k', .inr (.inl q)))) (funext fun q => ?_)
            exact (if_pos rfl).symm) n 0 _ τ (by omega) (by rw [Nat.add_zero]; exact hb5) hR1 ⟨h91, hal1⟩ hup (fun a hna i _ hi => by
            by_cases e : a = id
            · rw [e, hup]; omega
            · have h5 := hltH a (hnewτ a hna e)
              rw [hup1 a (hnewτ a hna e).2]
              omega) (fun i hi => by
            rw [if_neg (by omega)]
            unfold xrow_of
            rw [hτ]
            dsimp only
            have hrid : xnth [] (xset σ.2.2.1 id (xrow id)) id = xrow id := by rw [xnth_xset, if_pos ⟨rfl, by have := hR.2.2.2.2.2.2.1; omega⟩]
            rw [hrid, xrow_none]
            rfl) (by
            rw [hτ]
            show (xnth [] (xset σ.2.2.1 id (xrow id)) id).length = n
            rw [xnth_xset, if_pos ⟨rfl, by have := hR.2.2.2.2.2.2.1; omega⟩, xrow_len (by omega), hnn])
          have hFF : F.setIfInBounds H.size (xouter G G.2.2.2.2 n H.size (fun i => H.size + 1 + i) n) = F := by
            refine Array.ext_getElem? fun i => ?_
            by_cases e : i = H.size
            · rw [e, xset_eq hFs, hFo]; rfl
            · rw [xset_ne e]
          rw [hFF] at hR2
          have hx3 := xext_trans hx1 hx2
          have e2 : ρ' id = H.size := ((hx2.1 id hal1).2).trans hup
          have k := xKM_at (new := [.ref id]) (old := r) h hR2 (va_S_new hS (by omega) hFold) (cells := cells + 1 + n) (slots := slots + n + n * k') (by dsimp only; omega) (by dsimp only; omega) hn hl hlo (xok_t (xok_t hst)) (fun u hu => by rw [List.mem_singleton.mp hu]; exact (hx2.1 id hal1).1) hE hx3
          simp only [List.map_cons, List.map_nil, xemb, e2] at k
          exact k
  · exact h.elim
