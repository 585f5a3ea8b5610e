theorem xbool_iff {v : Int32} (h : xbool v = true) : v = 0 ∨ v = 1 := by
  unfold xbool at h
  rw [Bool.or_eq_true, decide_eq_true_eq, decide_eq_true_eq] at h
  exact h
theorem xk25 : ∀ o, o < 204 → xkind o = 25 → o = 0 ∨ o = 1 ∨ o = 2 := by decide +kernel
theorem xkall : ∀ o, o < 204 → 20 ≤ xkind o → xkind o ≠ 24 → xkind o = 20 ∨ xkind o = 21 ∨ xkind o = 22 ∨ xkind o = 23 ∨ xkind o = 25 := by decide +kernel
theorem xgrid_at : ∀ (l : List (Option Nat)) (o k : Nat), xgrid l o = true → k < l.length → xnth none l k = some (o + k)
  | [], _, _, _, h => by simp at h
  | none :: t, o, k, h, _ => by simp [xgrid] at h
  | some a :: t, o, 0, h, _ => by
    simp only [xgrid, Bool.and_eq_true] at h
    rw [Nat.eq_of_beq_eq_true h.1]
    rfl
  | some a :: t, o, k + 1, h, hk => by
    simp only [xgrid, Bool.and_eq_true] at h
    rw [show o + (k + 1) = (o + 1) + k by omega]
    exact xgrid_at t (o + 1) k h.2 (by simpa using hk)
theorem x_narrow_ref {ty : FieldType} (h : xisref ty = true) {a : Nat} : narrow ty (.ref a) = .ref a := by
  cases ty <;> first | rfl | cases h
theorem x_fits_ref {ty : FieldType} (h : xisref ty = true) {a : Nat} : fits ty (.ref a) = true := by
  cases ty <;> first | rfl | cases h
set_option maxHeartbeats 4000000 in
theorem xs_getfield {p : Program} {l : Launch} {e : Env} {R : Room} {s : State} {m : MethodId} {args : Array Value} {below : List Frame} {meth : Method} {c : Code} {Qf : State → Prop} {G : xG} {base : Nat} {f : Nat → Nat → Int32} {N : Nat} {ρ0 : Nat → Nat} {σ0 : xH} {adV : Nat → Nat} {cc : ByteArray} {own : String} {ini : Bool} {nL mc ms d : Nat} {Ts : List Cond} (X : xCtx p R s m args meth c G base f N ρ0 adV cc own ini nL mc ms d Ts) {T : List (List (Option xE))} {rt : Nat} {C : xC} {Q : xQ} (hT : xallT (xwP own ini) T) (hD : xdecT cc 0 T = true) {pc : Nat} {ls : List (Option Value)} {st : List Value} {σ : xH} {b : Nat × Nat} {i : Nat} {len : Nat} {v : Int32} {ax : List Nat} (hf : xfetch T pc = some (.getfield i, len, v, ax)) (h : xstp T rt C Q (xKM p l e R s m args below meth c Qf G base f N ρ0 σ0 nL mc ms) pc ls st σ b) : (xKM p l e R s m args below meth c Qf G base f N ρ0 σ0 nL mc ms) pc ls st σ b := by
  obtain ⟨hx, hb, hml, hown, hts, hW, hO, hcs, hfr, hin⟩ := X
  obtain ⟨hd, hwb, hj⟩ := xdecT_at hD hf
  have hw := xallT_at hT hf
  unfold xstp at h
  rw [hf] at h
  dsimp only at h hd
  have h1 : len = 3 := Nat.eq_of_beq_eq_true hwb
  subst h1
  split at h
  · rename_i c' k t o r
    have hw : xfok own i c' k ∧ Nat.beq t 2 = xisref (xfty c' k) := hw
    obtain ⟨⟨hk, hcl, hlk⟩, ht⟩ := hw
    have hc10 := xvw _ hcl
    cases hi : xis σ o c' with
    | false => rw [hi] at h; exact h.elim
    | true =>
      rw [hi] at h
      obtain ⟨hal, hkd⟩ := xis_iff hi
      have h9 : 9 ≤ o := xlow_kind hkd (Or.inl hc10)
      intro ρ H locs cells slots mls hR hS hc hs hn hl hlo hst hE
      have hnew : xnew σ o := ⟨h9, hal⟩
      have hsl := xslots_ok o (xalive_204 hR hal) (by omega)
      have hP : va_P G.1 vwCl [(ρ o, .inr (c', (List.range (xslots o)).map (xfval ρ σ o)))] H := fun k' q hq => by
        cases k' with
        | zero => cases hq; have := hR.1 o hnew; rwa [xentry_o (by omega), hkd] at this
        | succ k' => cases hq
      have hfv : ((List.range (xslots o)).map (xfval ρ σ o))[k]? = some (xfval ρ σ o k) := by
        rw [List.getElem?_map, List.getElem?_range (by rw [hsl, hkd]; exact hk)]
        rfl
      refine va_get (C := (xcn c').1) (T := (xcn c').2.1) (N := (xcn c').2.2) hx hb hts (fun w hw => hW _ (xuw c' hc10 w hw)) hown hO.2.1 hP 0 rfl hcl k hk (hts _ (hW _ hlk)) (fun _ q => q) hfv hd ?_
      unfold xfval
      rw [hkd, ← ht]
      by_cases ht2 : t = 2
      · subst ht2
        have hg : ∀ q, xnth none (xnth [] σ.2.2.1 o) k = some q → xalive σ.2.2.2.1 q = true := fun q hq => hR.2.2.2.1 o k q hnew hq
        refine h ρ H locs cells slots mls hR hS hc hs hn hl hlo (xok_c ?_ (xok_t hst)) hE
        cases hq : xnth none (xnth [] σ.2.2.1 o) k with
        | none => trivial
        | some q => exact hg q hq
      · have hb2 : Nat.beq t 2 = false := by
          cases hq : Nat.beq t 2 with
          | false => rfl
          | true => exact absurd (Nat.eq_of_beq_eq_true hq) ht2
        rw [hb2]
        have h' : (xKM p l e R s m args below meth c Qf G base f N ρ0 σ0 nL mc ms) (pc + 3) ls (.int (σ.1 o k) :: r) σ b := by
          revert h
          simp only [cond_true]
          first
            | exact id
            | (split
               · exact absurd rfl ht2
               · exact id)
        exact h' ρ H locs cells slots mls hR hS hc hs hn hl hlo (xok_c trivial (xok_t hst)) hE
  · exact h.elim

set_option maxHeartbeats 4000000 in
theorem xs_putfield {p : Program} {l : Launch} {e : Env} {R : Room} {s : State} {m : MethodId} {args : Array Value} {below : List Frame} {meth : Method} {c : Code} {Qf : State → Prop} {G : xG} {base : Nat} {f : Nat → Nat → Int32} {N : Nat} {ρ0 : Nat → Nat} {σ0 : xH} {adV : Nat → Nat} {cc : ByteArray} {own : String} {ini : Bool} {nL mc ms d : Nat} {Ts : List Cond} (X : xCtx p R s m args meth c G base f N ρ0 adV cc own ini nL mc ms d Ts) {T : List (List (Option xE))} {rt : Nat} {C : xC} {Q : xQ} (hT : xallT (xwP own ini) T) (hD : xdecT cc 0 T = true) {pc : Nat} {ls : List (Option Value)} {st : List Value} {σ : xH} {b : Nat × Nat} {i : Nat} {len : Nat} {v : Int32} {ax : List Nat} (hf : xfetch T pc = some (.putfield i, len, v, ax)) (h : xstp T rt C Q (xKM p l e R s m args below meth c Qf G base f N ρ0 σ0 nL mc ms) pc ls st σ b) : (xKM p l e R s m args below meth c Qf G base f N ρ0 σ0 nL mc ms) pc ls st σ b := by
  obtain ⟨hx, hb, hml, hown, hts, hW, hO, hcs, hfr, hin⟩ := X
  obtain ⟨hd, hwb, hj⟩ := xdecT_at hD hf
  have hw := xallT_at hT hf
  unfold xstp at h
  rw [hf] at h
  dsimp only at h hd
  have h1 : len = 3 := Nat.eq_of_beq_eq_true hwb
  subst h1
  split at h
  · rename_i c' k v' o r
    have hw : xfok own i c' k ∧ ((0 = 0 ∧ xfty c' k = .int) ∨ (0 = 1 ∧ xfty c' k = .boolean) ∨ (0 = 2 ∧ xisref (xfty c' k) = true)) ∧ (((xcn c').2.1 k).2.2.2 = false ∨ (((xcn c').2.1 k).1 = own ∧ ini = true)) := hw
    obtain ⟨⟨hk, hcl, hlk⟩, hty, hfin⟩ := hw
    have hc10 := xvw _ hcl
    have hfk : xfty c' k = .int := by
      rcases hty with h2 | h2 | h2
      · exact h2.2
      · exact absurd h2.1 (by decide)
      · exact absurd h2.1 (by decide)
    cases hi : xis σ o c' with
    | false => rw [hi] at h; exact h.elim
    | true =>
      rw [hi] at h
      obtain ⟨hal, hkd⟩ := xis_iff hi
      have h9 : 9 ≤ o := xlow_kind hkd (Or.inl hc10)
      intro ρ H locs cells slots mls hR hS hc hs hn hl hlo hst hE
      have hnew : xnew σ o := ⟨h9, hal⟩
      have hsl := xslots_ok o (xalive_204 hR hal) (by omega)
      obtain ⟨q0, hq0⟩ := xids_of hR hnew
      have hent : (xwsl G ρ σ)[q0]? = some (ρ o, .inr (c', (List.range (xslots o)).map (xfval ρ σ o))) := by rw [xwsl_of hq0, xentry_o (by omega), hkd]
      have hlen : k < ((List.range (xslots o)).map (xfval ρ σ o)).length := by rw [List.length_map, List.length_range, hsl, hkd]; exact hk
      have key : ∀ (H1 : Heap) (locs1 : List Loc), va_P G.1 vwCl ((xwsl G ρ σ).set q0 (ρ o, .inr (c', ((List.range (xslots o)).map (xfval ρ σ o)).set k (.int v')))) H1 → va_S (xA base) s.heap H1 locs1 → W p l e R s m args below meth c H1 locs1 cells slots Qf (F0 m (pc + 3) mls (r.map (xemb ρ))) := fun H1 locs1 hP1 hS1 => by
        have ho := xset_out hR hq0 hP1
        refine h ρ H1 locs1 cells slots mls (xRel_I hR hnew (fun j hj => by funext q; exact if_neg (fun z => hj z.1)) ⟨?_, ho.2⟩) hS1 hc hs hn hl hlo (xok_t (xok_t hst)) hE
        rw [xentry_o (by omega), hkd]
        have e : (List.range (xslots o)).map (xfval ρ (xw σ.1 o k v', σ.2) o) = ((List.range (xslots o)).map (xfval ρ σ o)).set k (.int v') := by
          refine List.ext_getElem? fun j => ?_
          rw [List.getElem?_set, List.getElem?_map, List.getElem?_map, List.length_map, List.length_range]
          by_cases hj : j < xslots o
          · rw [List.getElem?_range hj]
            by_cases ej : k = j
            · subst ej
              rw [if_pos rfl, if_pos hj]
              show some (xfval ρ _ o k) = some _
              congr 1
              unfold xfval
              rw [hkd]
              rw [hfk]
              show Value.int (xw σ.1 o k v' o k) = _
              rw [xw, if_pos ⟨rfl, rfl⟩]
            · rw [if_neg ej]
              show some (xfval ρ _ o j) = some (xfval ρ σ o j)
              congr 1
              unfold xfval
              show (bif xisref (xfty (xkind o) j) then _ else Value.int (xw σ.1 o k v' o j)) = _
              rw [xw, if_neg (fun z => ej z.2.symm)]
          · have hn : (List.range (xslots o))[j]? = none := List.getElem?_eq_none (by rw [List.length_range]; omega)
            rw [hn]
            by_cases ej : k = j
            · subst ej
              exact absurd (by rw [hsl, hkd]; exact hk) hj
            · rw [if_neg ej]
              rfl
        rw [e]
        exact ho.1
      cases hfb : ((xcn c').2.1 k).2.2.2 with
      | false => exact va_put (C := (xcn c').1) (T := (xcn c').2.1) (N := (xcn c').2.2) hx hb hts (fun w hw => hW _ (xuw c' hc10 w hw)) (xfty c') (xtyok c' hc10) (xnmok c' hc10) hown hO.2.1 (xwsl_P hR) (xwsl_D hR) hS q0 hent hcl k hk (hts _ (hW _ hlk)) (fun _ q => q) hfb (xtyok c' hc10 k hk) (by rw [hfk]; rfl) (by rw [hfk]; rfl) hlen hd (fun H1 locs1 hP1 _ hS1 => key H1 locs1 hP1 hS1)
      | true =>
        have hfi : ((xcn c').2.1 k).1 = own ∧ ini = true := by
          rcases hfin with q | q
          · rw [hfb] at q; cases q
          · exact q
        obtain ⟨hdec, hini⟩ := hfi
        exact va_putF (C := (xcn c').1) (T := (xcn c').2.1) (N := (xcn c').2.2) hx hb hts (fun w hw => hW _ (xuw c' hc10 w hw)) (xfty c') (xtyok c' hc10) (xnmok c' hc10) hown hO.2.1 (xwsl_P hR) (xwsl_D hR) hS q0 hent hcl k hk (hts _ (hW _ hlk)) (fun _ q => q) hfb (hin hini) hdec (xtyok c' hc10 k hk) (by rw [hfk]; rfl) (by rw [hfk]; rfl) hlen hd (fun H1 locs1 hP1 _ hS1 => key H1 locs1 hP1 hS1)
  · rename_i c' k v' o r
    have hw : xfok own i c' k ∧ ((1 = 0 ∧ xfty c' k = .int) ∨ (1 = 1 ∧ xfty c' k = .boolean) ∨ (1 = 2 ∧ xisref (xfty c' k) = true)) ∧ (((xcn c').2.1 k).2.2.2 = false ∨ (((xcn c').2.1 k).1 = own ∧ ini = true)) := hw
    obtain ⟨⟨hk, hcl, hlk⟩, hty, hfin⟩ := hw
    have hc10 := xvw _ hcl
    have hfk : xfty c' k = .boolean := by
      rcases hty with h2 | h2 | h2
      · exact absurd h2.1 (by decide)
      · exact h2.2
      · exact absurd h2.1 (by decide)
    cases hi : xis σ o c' && xbool v' with
    | false => rw [hi] at h; exact h.elim
    | true =>
      rw [hi] at h
      rw [Bool.and_eq_true] at hi
      obtain ⟨hi, hvb⟩ := hi
      have hv01 := xbool_iff hvb
      obtain ⟨hal, hkd⟩ := xis_iff hi
      have h9 : 9 ≤ o := xlow_kind hkd (Or.inl hc10)
      intro ρ H locs cells slots mls hR hS hc hs hn hl hlo hst hE
      have hnew : xnew σ o := ⟨h9, hal⟩
      have hsl := xslots_ok o (xalive_204 hR hal) (by omega)
      obtain ⟨q0, hq0⟩ := xids_of hR hnew
      have hent : (xwsl G ρ σ)[q0]? = some (ρ o, .inr (c', (List.range (xslots o)).map (xfval ρ σ o))) := by rw [xwsl_of hq0, xentry_o (by omega), hkd]
      have hlen : k < ((List.range (xslots o)).map (xfval ρ σ o)).length := by rw [List.length_map, List.length_range, hsl, hkd]; exact hk
      have key : ∀ (H1 : Heap) (locs1 : List Loc), va_P G.1 vwCl ((xwsl G ρ σ).set q0 (ρ o, .inr (c', ((List.range (xslots o)).map (xfval ρ σ o)).set k (.int v')))) H1 → va_S (xA base) s.heap H1 locs1 → W p l e R s m args below meth c H1 locs1 cells slots Qf (F0 m (pc + 3) mls (r.map (xemb ρ))) := fun H1 locs1 hP1 hS1 => by
        have ho := xset_out hR hq0 hP1
        refine h ρ H1 locs1 cells slots mls (xRel_I hR hnew (fun j hj => by funext q; exact if_neg (fun z => hj z.1)) ⟨?_, ho.2⟩) hS1 hc hs hn hl hlo (xok_t (xok_t hst)) hE
        rw [xentry_o (by omega), hkd]
        have e : (List.range (xslots o)).map (xfval ρ (xw σ.1 o k v', σ.2) o) = ((List.range (xslots o)).map (xfval ρ σ o)).set k (.int v') := by
          refine List.ext_getElem? fun j => ?_
          rw [List.getElem?_set, List.getElem?_map, List.getElem?_map, List.length_map, List.length_range]
          by_cases hj : j < xslots o
          · rw [List.getElem?_range hj]
            by_cases ej : k = j
            · subst ej
              rw [if_pos rfl, if_pos hj]
              show some (xfval ρ _ o k) = some _
              congr 1
              unfold xfval
              rw [hkd]
              rw [hfk]
              show Value.int (xw σ.1 o k v' o k) = _
              rw [xw, if_pos ⟨rfl, rfl⟩]
            · rw [if_neg ej]
              show some (xfval ρ _ o j) = some (xfval ρ σ o j)
              congr 1
              unfold xfval
              show (bif xisref (xfty (xkind o) j) then _ else Value.int (xw σ.1 o k v' o j)) = _
              rw [xw, if_neg (fun z => ej z.2.symm)]
          · have hn : (List.range (xslots o))[j]? = none := List.getElem?_eq_none (by rw [List.length_range]; omega)
            rw [hn]
            by_cases ej : k = j
            · subst ej
              exact absurd (by rw [hsl, hkd]; exact hk) hj
            · rw [if_neg ej]
              rfl
        rw [e]
        exact ho.1
      cases hfb : ((xcn c').2.1 k).2.2.2 with
      | false => exact va_put (C := (xcn c').1) (T := (xcn c').2.1) (N := (xcn c').2.2) hx hb hts (fun w hw => hW _ (xuw c' hc10 w hw)) (xfty c') (xtyok c' hc10) (xnmok c' hc10) hown hO.2.1 (xwsl_P hR) (xwsl_D hR) hS q0 hent hcl k hk (hts _ (hW _ hlk)) (fun _ q => q) hfb (xtyok c' hc10 k hk) (by rw [hfk]; rcases hv01 with rfl | rfl <;> rfl) (by rw [hfk]; rcases hv01 with rfl | rfl <;> rfl) hlen hd (fun H1 locs1 hP1 _ hS1 => key H1 locs1 hP1 hS1)
      | true =>
        have hfi : ((xcn c').2.1 k).1 = own ∧ ini = true := by
          rcases hfin with q | q
          · rw [hfb] at q; cases q
          · exact q
        obtain ⟨hdec, hini⟩ := hfi
        exact va_putF (C := (xcn c').1) (T := (xcn c').2.1) (N := (xcn c').2.2) hx hb hts (fun w hw => hW _ (xuw c' hc10 w hw)) (xfty c') (xtyok c' hc10) (xnmok c' hc10) hown hO.2.1 (xwsl_P hR) (xwsl_D hR) hS q0 hent hcl k hk (hts _ (hW _ hlk)) (fun _ q => q) hfb (hin hini) hdec (xtyok c' hc10 k hk) (by rw [hfk]; rcases hv01 with rfl | rfl <;> rfl) (by rw [hfk]; rcases hv01 with rfl | rfl <;> rfl) hlen hd (fun H1 locs1 hP1 _ hS1 => key H1 locs1 hP1 hS1)
  · rename_i c' k v' o r
    have hw : xfok own i c' k ∧ ((2 = 0 ∧ xfty c' k = .int) ∨ (2 = 1 ∧ xfty c' k = .boolean) ∨ (2 = 2 ∧ xisref (xfty c' k) = true)) ∧ (((xcn c').2.1 k).2.2.2 = false ∨ (((xcn c').2.1 k).1 = own ∧ ini = true)) := hw
    obtain ⟨⟨hk, hcl, hlk⟩, hty, hfin⟩ := hw
    have hc10 := xvw _ hcl
    have hfk : xisref (xfty c' k) = true := by
      rcases hty with h2 | h2 | h2
      · exact absurd h2.1 (by decide)
      · exact absurd h2.1 (by decide)
      · exact h2.2
    cases hi : xis σ o c' && xalive σ.2.2.2.1 v' with
    | false => rw [hi] at h; exact h.elim
    | true =>
      rw [hi] at h
      rw [Bool.and_eq_true] at hi
      obtain ⟨hi, hvb⟩ := hi
      obtain ⟨hal, hkd⟩ := xis_iff hi
      have h9 : 9 ≤ o := xlow_kind hkd (Or.inl hc10)
      intro ρ H locs cells slots mls hR hS hc hs hn hl hlo hst hE
      have hrl := hR.2.2.2.2.2.2.2 o ⟨h9, hal⟩ (Or.inl (by omega))
      have ho204 : o < σ.2.2.1.length := Nat.lt_of_lt_of_le (xalive_204 hR hal) hR.2.2.2.2.2.2.1
      have hnew : xnew σ o := ⟨h9, hal⟩
      have hsl := xslots_ok o (xalive_204 hR hal) (by omega)
      obtain ⟨q0, hq0⟩ := xids_of hR hnew
      have hent : (xwsl G ρ σ)[q0]? = some (ρ o, .inr (c', (List.range (xslots o)).map (xfval ρ σ o))) := by rw [xwsl_of hq0, xentry_o (by omega), hkd]
      have hlen : k < ((List.range (xslots o)).map (xfval ρ σ o)).length := by rw [List.length_map, List.length_range, hsl, hkd]; exact hk
      have key : ∀ (H1 : Heap) (locs1 : List Loc), va_P G.1 vwCl ((xwsl G ρ σ).set q0 (ρ o, .inr (c', ((List.range (xslots o)).map (xfval ρ σ o)).set k (.ref (ρ v'))))) H1 → va_S (xA base) s.heap H1 locs1 → W p l e R s m args below meth c H1 locs1 cells slots Qf (F0 m (pc + 3) mls (r.map (xemb ρ))) := fun H1 locs1 hP1 hS1 => by
        have ho := xset_out hR hq0 hP1
        refine h ρ H1 locs1 cells slots mls (xRel_R hR hvb ⟨?_, ho.2⟩) hS1 hc hs hn hl hlo (xok_t (xok_t hst)) hE
        rw [xentry_o (by omega), hkd]
        have e : (List.range (xslots o)).map (xfval ρ (σ.1, σ.2.1, xwr σ.2.2.1 o k (some v'), σ.2.2.2) o) = ((List.range (xslots o)).map (xfval ρ σ o)).set k (.ref (ρ v')) := by
          refine List.ext_getElem? fun j => ?_
          rw [List.getElem?_set, List.getElem?_map, List.getElem?_map, List.length_map, List.length_range]
          by_cases hj : j < xslots o
          · rw [List.getElem?_range hj]
            by_cases ej : k = j
            · subst ej
              rw [if_pos rfl, if_pos hj]
              show some (xfval ρ _ o k) = some _
              congr 1
              unfold xfval
              rw [hkd]
              rw [hfk]
              show xemb ρ (xref (xnth none (xnth [] (xwr σ.2.2.1 o k (some v')) o) k)) = _
              rw [xwr, xnth_xset, if_pos ⟨rfl, ho204⟩, xnth_xset, if_pos ⟨rfl, by rw [hrl]; exact hj⟩]
              rfl
            · rw [if_neg ej]
              show some (xfval ρ _ o j) = some (xfval ρ σ o j)
              congr 1
              unfold xfval
              show (bif xisref (xfty (xkind o) j) then xemb ρ (xref (xnth none (xnth [] (xwr σ.2.2.1 o k (some v')) o) j)) else Value.int (σ.1 o j)) = _
              rw [xwr, xnth_xset, if_pos ⟨rfl, ho204⟩, xnth_xset, if_neg (fun z => ej z.1.symm)]
          · have hn : (List.range (xslots o))[j]? = none := List.getElem?_eq_none (by rw [List.length_range]; omega)
            rw [hn]
            by_cases ej : k = j
            · subst ej
              exact absurd (by rw [hsl, hkd]; exact hk) hj
            · rw [if_neg ej]
              rfl
        rw [e]
        exact ho.1
      cases hfb : ((xcn c').2.1 k).2.2.2 with
      | false => exact va_put (C := (xcn c').1) (T := (xcn c').2.1) (N := (xcn c').2.2) hx hb hts (fun w hw => hW _ (xuw c' hc10 w hw)) (xfty c') (xtyok c' hc10) (xnmok c' hc10) hown hO.2.1 (xwsl_P hR) (xwsl_D hR) hS q0 hent hcl k hk (hts _ (hW _ hlk)) (fun _ q => q) hfb (xtyok c' hc10 k hk) (x_narrow_ref hfk) (x_fits_ref hfk) hlen hd (fun H1 locs1 hP1 _ hS1 => key H1 locs1 hP1 hS1)
      | true =>
        have hfi : ((xcn c').2.1 k).1 = own ∧ ini = true := by
          rcases hfin with q | q
          · rw [hfb] at q; cases q
          · exact q
        obtain ⟨hdec, hini⟩ := hfi
        exact va_putF (C := (xcn c').1) (T := (xcn c').2.1) (N := (xcn c').2.2) hx hb hts (fun w hw => hW _ (xuw c' hc10 w hw)) (xfty c') (xtyok c' hc10) (xnmok c' hc10) hown hO.2.1 (xwsl_P hR) (xwsl_D hR) hS q0 hent hcl k hk (hts _ (hW _ hlk)) (fun _ q => q) hfb (hin hini) hdec (xtyok c' hc10 k hk) (x_narrow_ref hfk) (x_fits_ref hfk) hlen hd (fun H1 locs1 hP1 _ hS1 => key H1 locs1 hP1 hS1)
  · exact h.elim

set_option maxHeartbeats 4000000 in
theorem xs_getstatic {p : Program} {l : Launch} {e : Env} {R : Room} {s : State} {m : MethodId} {args : Array Value} {below : List Frame} {meth : Method} {c : Code} {Qf : State → Prop} {G : xG} {base : Nat} {f : Nat → Nat → Int32} {N : Nat} {ρ0 : Nat → Nat} {σ0 : xH} {adV : Nat → Nat} {cc : ByteArray} {own : String} {ini : Bool} {nL mc ms d : Nat} {Ts : List Cond} (X : xCtx p R s m args meth c G base f N ρ0 adV cc own ini nL mc ms d Ts) {T : List (List (Option xE))} {rt : Nat} {C : xC} {Q : xQ} (hT : xallT (xwP own ini) T) (hD : xdecT cc 0 T = true) {pc : Nat} {ls : List (Option Value)} {st : List Value} {σ : xH} {b : Nat × Nat} {i : Nat} {len : Nat} {v : Int32} {ax : List Nat} (hf : xfetch T pc = some (.getstatic i, len, v, ax)) (h : xstp T rt C Q (xKM p l e R s m args below meth c Qf G base f N ρ0 σ0 nL mc ms) pc ls st σ b) : (xKM p l e R s m args below meth c Qf G base f N ρ0 σ0 nL mc ms) pc ls st σ b := by
  obtain ⟨hx, hb, hml, hown, hts, hW, hO, hcs, hfr, hin⟩ := X
  obtain ⟨hd, hwb, hj⟩ := xdecT_at hD hf
  have hw := xallT_at hT hf
  unfold xstp at h
  rw [hf] at h
  dsimp only at h hd
  have h1 : len = 3 := Nat.eq_of_beq_eq_true hwb
  subst h1
  split at h
  · rename_i a
    have hw : (a = 1 ∧ Cond.fieldLink own i "TheOneWithout$Tellers" "ABOVE" "[I" ∈ xW) ∨ (a = 2 ∧ Cond.fieldLink own i "TheOneWithout$Worlds" "SHIFTS" "[I" ∈ xW) := hw
    intro ρ H locs cells slots mls hR hS hc hs hn hl hlo hst hE
    rcases hw with ⟨rfl, hl1⟩ | ⟨rfl, hl1⟩
    · refine va_gets hx hb (C := "TheOneWithout$Tellers") (n := "ABOVE") (d := "[I") (v := .ref (ρ 1)) (by rw [hE.2 1 (by decide)]; exact hO.2.2.2.2.2.1.1) hS hown (hts _ (hW _ hl1)) (fun _ q => q) hd ?_
      exact h ρ H locs cells slots mls hR hS hc hs hn hl hlo (xok_c (xalive_low hR (by decide)) hst) hE
    · refine va_gets hx hb (C := "TheOneWithout$Worlds") (n := "SHIFTS") (d := "[I") (v := .ref (ρ 2)) (by rw [hE.2 2 (by decide)]; exact hO.2.2.2.2.2.2.1.1) hS hown (hts _ (hW _ hl1)) (fun _ q => q) hd ?_
      exact h ρ H locs cells slots mls hR hS hc hs hn hl hlo (xok_c (xalive_low hR (by decide)) hst) hE
  · exact h.elim

set_option maxHeartbeats 4000000 in
theorem xs_iaload {p : Program} {l : Launch} {e : Env} {R : Room} {s : State} {m : MethodId} {args : Array Value} {below : List Frame} {meth : Method} {c : Code} {Qf : State → Prop} {G : xG} {base : Nat} {f : Nat → Nat → Int32} {N : Nat} {ρ0 : Nat → Nat} {σ0 : xH} {adV : Nat → Nat} {cc : ByteArray} {own : String} {ini : Bool} {nL mc ms d : Nat} {Ts : List Cond} (X : xCtx p R s m args meth c G base f N ρ0 adV cc own ini nL mc ms d Ts) {T : List (List (Option xE))} {rt : Nat} {C : xC} {Q : xQ} (hT : xallT (xwP own ini) T) (hD : xdecT cc 0 T = true) {pc : Nat} {ls : List (Option Value)} {st : List Value} {σ : xH} {b : Nat × Nat}  {len : Nat} {v : Int32} {ax : List Nat} (hf : xfetch T pc = some (.iaload, len, v, ax)) (h : xstp T rt C Q (xKM p l e R s m args below meth c Qf G base f N ρ0 σ0 nL mc ms) pc ls st σ b) : (xKM p l e R s m args below meth c Qf G base f N ρ0 σ0 nL mc ms) pc ls st σ b := by
  obtain ⟨hx, hb, hml, hown, hts, hW, hO, hcs, hfr, hin⟩ := X
  obtain ⟨hd, hwb, hj⟩ := xdecT_at hD hf
  have hw := xallT_at hT hf
  unfold xstp at h
  rw [hf] at h
  dsimp only at h hd
  have h1 : len = 1 := Nat.eq_of_beq_eq_true hwb
  subst h1
  split at h
  · rename_i i o r
    cases hi : xisi σ o with
    | false => rw [hi] at h; exact h.elim
    | true =>
      rw [hi] at h
      unfold xisi at hi
      rw [Bool.and_eq_true, Bool.or_eq_true] at hi
      obtain ⟨hal, hkk⟩ := hi
      simp only [cond_true] at h
      split at h
      · rename_i hin'
        intro ρ H locs cells slots mls hR hS hc hs hn hl hlo hst hE
        have hN := hR.2.2.2.2.2.1
        have k := h ρ H locs cells slots mls hR hS hc hs hn hl hlo (xok_c trivial (xok_t (xok_t hst))) hE
        rcases hkk with hkk | hkk
        · have hkd := Nat.eq_of_beq_eq_true hkk
          have h9 : 9 ≤ o := xlow_kind hkd (by omega)
          have hP : va_P G.1 vwCl [(ρ o, .inl (G.2.1, xslots o, .inl (σ.1 o)))] H := fun k' q hq => by
            cases k' with
            | zero => cases hq; have := hR.1 o ⟨h9, hal⟩; rwa [xentry_20 hkd] at this
            | succ k' => cases hq
          exact va_iald hx hb hO.2.1 hP 0 0 rfl rfl (by rw [← xlen_eq (N := σ.2.2.2.2) (o := o) (Nat.lt_of_lt_of_le (by decide) h9)]; exact hin') hd k
        · have hkd := Nat.eq_of_beq_eq_true hkk
          rcases xk25 o (xalive_204 hR hal) hkd with rfl | rfl | rfl
          · refine va_sld hx hb (b := ρ 0) (L := N) (xs := f 0) (by rw [hE.2 0 (by decide)]; exact hO.2.2.2.2.1.1) (by rw [hE.2 0 (by decide)]; exact Nat.lt_of_lt_of_le hO.2.2.2.2.1.2 hO.1) (by rw [hE.2 0 (by decide)]; exact Nat.not_le.mpr hO.2.2.2.2.1.2) hS (by rw [← hN.2.2.2]; exact hin') hd ?_
            rw [← hN.1]
            exact k
          · refine va_ti hx hb (t := ρ 1) (by rw [hE.2 1 (by decide)]; exact hO.2.2.2.2.2.1.2) hS hin' rfl hd ?_
            rw [← hN.2.1]
            exact k
          · refine va_ti hx hb (t := ρ 2) (by rw [hE.2 2 (by decide)]; exact hO.2.2.2.2.2.2.1.2) hS hin' rfl hd ?_
            rw [← hN.2.2.1]
            exact k
      · exact h.elim
  · exact h.elim

set_option maxHeartbeats 4000000 in
theorem xs_laload {p : Program} {l : Launch} {e : Env} {R : Room} {s : State} {m : MethodId} {args : Array Value} {below : List Frame} {meth : Method} {c : Code} {Qf : State → Prop} {G : xG} {base : Nat} {f : Nat → Nat → Int32} {N : Nat} {ρ0 : Nat → Nat} {σ0 : xH} {adV : Nat → Nat} {cc : ByteArray} {own : String} {ini : Bool} {nL mc ms d : Nat} {Ts : List Cond} (X : xCtx p R s m args meth c G base f N ρ0 adV cc own ini nL mc ms d Ts) {T : List (List (Option xE))} {rt : Nat} {C : xC} {Q : xQ} (hT : xallT (xwP own ini) T) (hD : xdecT cc 0 T = true) {pc : Nat} {ls : List (Option Value)} {st : List Value} {σ : xH} {b : Nat × Nat}  {len : Nat} {v : Int32} {ax : List Nat} (hf : xfetch T pc = some (.laload, len, v, ax)) (h : xstp T rt C Q (xKM p l e R s m args below meth c Qf G base f N ρ0 σ0 nL mc ms) pc ls st σ b) : (xKM p l e R s m args below meth c Qf G base f N ρ0 σ0 nL mc ms) pc ls st σ b := by
  obtain ⟨hx, hb, hml, hown, hts, hW, hO, hcs, hfr, hin⟩ := X
  obtain ⟨hd, hwb, hj⟩ := xdecT_at hD hf
  have hw := xallT_at hT hf
  unfold xstp at h
  rw [hf] at h
  dsimp only at h hd
  have h1 : len = 1 := Nat.eq_of_beq_eq_true hwb
  subst h1
  split at h
  · rename_i i o r
    cases hi : xis σ o 21 with
    | false => rw [hi] at h; exact h.elim
    | true =>
      rw [hi] at h
      obtain ⟨hal, hkd⟩ := xis_iff hi
      have h9 : 9 ≤ o := xlow_kind hkd (by omega)
      simp only [cond_true] at h
      split at h
      · rename_i hin'
        intro ρ H locs cells slots mls hR hS hc hs hn hl hlo hst hE
        have hP : va_P G.1 vwCl [(ρ o, .inl (G.2.2.1, xslots o, .inr (.inl (σ.2.1 o))))] H := fun k' q hq => by
          cases k' with
          | zero => cases hq; have := hR.1 o ⟨h9, hal⟩; rwa [xentry_21 hkd] at this
          | succ k' => cases hq
        exact va_lald hx hb hO.2.1 hP 0 1 rfl rfl (by rw [← xlen_eq (N := σ.2.2.2.2) (o := o) (Nat.lt_of_lt_of_le (by decide) h9)]; exact hin') hd (h ρ H locs cells slots mls hR hS hc hs hn hl hlo (xok_c trivial (xok_t (xok_t hst))) hE)
      · exact h.elim
  · exact h.elim

set_option maxHeartbeats 4000000 in
theorem xs_aaload {p : Program} {l : Launch} {e : Env} {R : Room} {s : State} {m : MethodId} {args : Array Value} {below : List Frame} {meth : Method} {c : Code} {Qf : State → Prop} {G : xG} {base : Nat} {f : Nat → Nat → Int32} {N : Nat} {ρ0 : Nat → Nat} {σ0 : xH} {adV : Nat → Nat} {cc : ByteArray} {own : String} {ini : Bool} {nL mc ms d : Nat} {Ts : List Cond} (X : xCtx p R s m args meth c G base f N ρ0 adV cc own ini nL mc ms d Ts) {T : List (List (Option xE))} {rt : Nat} {C : xC} {Q : xQ} (hT : xallT (xwP own ini) T) (hD : xdecT cc 0 T = true) {pc : Nat} {ls : List (Option Value)} {st : List Value} {σ : xH} {b : Nat × Nat}  {len : Nat} {v : Int32} {ax : List Nat} (hf : xfetch T pc = some (.aaload, len, v, ax)) (h : xstp T rt C Q (xKM p l e R s m args below meth c Qf G base f N ρ0 σ0 nL mc ms) pc ls st σ b) : (xKM p l e R s m args below meth c Qf G base f N ρ0 σ0 nL mc ms) pc ls st σ b := by
  obtain ⟨hx, hb, hml, hown, hts, hW, hO, hcs, hfr, hin⟩ := X
  obtain ⟨hd, hwb, hj⟩ := xdecT_at hD hf
  have hw := xallT_at hT hf
  unfold xstp at h
  rw [hf] at h
  dsimp only at h hd
  have h1 : len = 1 := Nat.eq_of_beq_eq_true hwb
  subst h1
  split at h
  · rename_i i o r
    cases hi : (xis σ o 22 || xis σ o 23) && xgrid (xnth [] σ.2.2.1 o) (o + 1) with
    | false => rw [hi] at h; exact h.elim
    | true =>
      rw [hi] at h
      rw [Bool.and_eq_true, Bool.or_eq_true] at hi
      obtain ⟨hkk, hgr⟩ := hi
      simp only [cond_true] at h
      split at h
      · rename_i hin'
        intro ρ H locs cells slots mls hR hS hc hs hn hl hlo hst hE
        have hal : xalive σ.2.2.2.1 o = true := by rcases hkk with q | q <;> exact (xis_iff q).1
        have h9 : 9 ≤ o := by rcases hkk with q | q <;> exact xlow_kind (xis_iff q).2 (by omega)
        have hin2 : xin i (xslots o) := by rw [← xlen_eq (N := σ.2.2.2.2) (o := o) (Nat.lt_of_lt_of_le (by decide) h9)]; exact hin'
        have hlt : i.toNatClampNeg < xslots o := Nat.not_le.mp fun q => hin2 (Or.inr q)
        have hll : (xnth [] σ.2.2.1 o).length = xslots o := hR.2.2.2.2.2.2.2 o ⟨h9, hal⟩ (by rcases hkk with q | q <;> (have := (xis_iff q).2; omega))
        have hget : xnth none (xnth [] σ.2.2.1 o) i.toNatClampNeg = some (o + 1 + i.toNatClampNeg) := xgrid_at _ _ _ hgr (by rw [hll]; exact hlt)
        have hrow : xrow_of ρ σ o i.toNatClampNeg = some (ρ (o + 1 + i.toNatClampNeg)) := by unfold xrow_of; rw [hget]; rfl
        have hqa : xalive σ.2.2.2.1 (o + 1 + i.toNatClampNeg) = true := hR.2.2.2.1 o _ _ ⟨h9, hal⟩ hget
        have k := h ρ H locs cells slots mls hR hS hc hs hn hl hlo (xok_c hqa (xok_t (xok_t hst))) hE
        rcases hkk with hkk | hkk
        · have hkd := (xis_iff hkk).2
          have hcell : H[ρ o]? = some (arrV G.2.2.2.1 (xslots o) (fun j => va_rf (xrow_of ρ σ o j))) := by
            have := hR.1 o ⟨h9, hal⟩
            rw [xentry_22 hkd] at this
            exact this
          exact W.aald (ty := .array .int) (v := .ref (ρ (o + 1 + i.toNatClampNeg))) hx hb hcell ((hO.2.1.2 2 _ rfl).1 _ _) rfl (fun q => by cases q) (by rw [arrV_size]; exact hin2) (by rw [arrV_read _ _ hlt, hrow]; rfl) rfl rfl hd k
        · have hkd := (xis_iff hkk).2
          have hcell : H[ρ o]? = some (arrV G.2.2.2.2 (xslots o) (fun j => va_rf (xrow_of ρ σ o j))) := by
            have := hR.1 o ⟨h9, hal⟩
            rw [xentry_23 hkd] at this
            exact this
          exact W.aald (ty := .array .long) (v := .ref (ρ (o + 1 + i.toNatClampNeg))) hx hb hcell ((hO.2.1.2 3 _ rfl).1 _ _) rfl (fun q => by cases q) (by rw [arrV_size]; exact hin2) (by rw [arrV_read _ _ hlt, hrow]; rfl) rfl rfl hd k
      · exact h.elim
  · exact h.elim

set_option maxHeartbeats 4000000 in
theorem xs_alen {p : Program} {l : Launch} {e : Env} {R : Room} {s : State} {m : MethodId} {args : Array Value} {below : List Frame} {meth : Method} {c : Code} {Qf : State → Prop} {G : xG} {base : Nat} {f : Nat → Nat → Int32} {N : Nat} {ρ0 : Nat → Nat} {σ0 : xH} {adV : Nat → Nat} {cc : ByteArray} {own : String} {ini : Bool} {nL mc ms d : Nat} {Ts : List Cond} (X : xCtx p R s m args meth c G base f N ρ0 adV cc own ini nL mc ms d Ts) {T : List (List (Option xE))} {rt : Nat} {C : xC} {Q : xQ} (hT : xallT (xwP own ini) T) (hD : xdecT cc 0 T = true) {pc : Nat} {ls : List (Option Value)} {st : List Value} {σ : xH} {b : Nat × Nat}  {len : Nat} {v : Int32} {ax : List Nat} (hf : xfetch T pc = some (.arraylength, len, v, ax)) (h : xstp T rt C Q (xKM p l e R s m args below meth c Qf G base f N ρ0 σ0 nL mc ms) pc ls st σ b) : (xKM p l e R s m args below meth c Qf G base f N ρ0 σ0 nL mc ms) pc ls st σ b := by
  obtain ⟨hx, hb, hml, hown, hts, hW, hO, hcs, hfr, hin⟩ := X
  obtain ⟨hd, hwb, hj⟩ := xdecT_at hD hf
  have hw := xallT_at hT hf
  unfold xstp at h
  rw [hf] at h
  dsimp only at h hd
  have h1 : len = 1 := Nat.eq_of_beq_eq_true hwb
  subst h1
  split at h
  · rename_i o r
    cases hi : xalive σ.2.2.2.1 o && Nat.ble 20 (xkind o) && !(Nat.beq (xkind o) 24) with
    | false => rw [hi] at h; exact h.elim
    | true =>
      rw [hi] at h
      rw [Bool.and_eq_true, Bool.and_eq_true, Nat.ble_eq] at hi
      obtain ⟨⟨hal, hk20⟩, hk24⟩ := hi
      have hk24 : xkind o ≠ 24 := fun q => by rw [q] at hk24; cases hk24
      intro ρ H locs cells slots mls hR hS hc hs hn hl hlo hst hE
      have hN := hR.2.2.2.2.2.1
      have k := h ρ H locs cells slots mls hR hS hc hs hn hl hlo (xok_c trivial (xok_t hst)) hE
      rcases xkall o (xalive_204 hR hal) hk20 hk24 with hkd | hkd | hkd | hkd | hkd
      all_goals (try have h9 : 9 ≤ o := xlow_kind hkd (by omega))
      · skip
        have hP : va_P G.1 vwCl [(ρ o, .inl (G.2.1, xslots o, .inl (σ.1 o)))] H := fun k' q hq => by
          cases k' with
          | zero => cases hq; have := hR.1 o ⟨h9, hal⟩; rwa [xentry_20 hkd] at this
          | succ k' => cases hq
        exact va_alen hx hb hO.2.1 hP 0 0 rfl rfl (by rw [xlen_eq (o := o) (Nat.lt_of_lt_of_le (by decide) h9)]) hd k
      · skip
        have hP : va_P G.1 vwCl [(ρ o, .inl (G.2.2.1, xslots o, .inr (.inl (σ.2.1 o))))] H := fun k' q hq => by
          cases k' with
          | zero => cases hq; have := hR.1 o ⟨h9, hal⟩; rwa [xentry_21 hkd] at this
          | succ k' => cases hq
        exact va_alen hx hb hO.2.1 hP 0 1 rfl rfl (by rw [xlen_eq (o := o) (Nat.lt_of_lt_of_le (by decide) h9)]) hd k
      · skip
        have hP : va_P G.1 vwCl [(ρ o, .inl (G.2.2.2.1, xslots o, .inr (.inr (.inr (.inr (xrow_of ρ σ o))))))] H := fun k' q hq => by
          cases k' with
          | zero => cases hq; have := hR.1 o ⟨h9, hal⟩; rwa [xentry_22 hkd] at this
          | succ k' => cases hq
        exact va_alen hx hb hO.2.1 hP 0 2 rfl rfl (by rw [xlen_eq (o := o) (Nat.lt_of_lt_of_le (by decide) h9)]) hd k
      · skip
        have hP : va_P G.1 vwCl [(ρ o, .inl (G.2.2.2.2, xslots o, .inr (.inr (.inr (.inr (xrow_of ρ σ o))))))] H := fun k' q hq => by
          cases k' with
          | zero => cases hq; have := hR.1 o ⟨h9, hal⟩; rwa [xentry_23 hkd] at this
          | succ k' => cases hq
        exact va_alen hx hb hO.2.1 hP 0 3 rfl rfl (by rw [xlen_eq (o := o) (Nat.lt_of_lt_of_le (by decide) h9)]) hd k
      · rcases xk25 o (xalive_204 hR hal) hkd with rfl | rfl | rfl
        · refine va_slen hx hb (b := ρ 0) (L := N) (xs := f 0) (by rw [hE.2 0 (by decide)]; exact hO.2.2.2.2.1.1) (by rw [hE.2 0 (by decide)]; exact Nat.lt_of_lt_of_le hO.2.2.2.2.1.2 hO.1) (by rw [hE.2 0 (by decide)]; exact Nat.not_le.mpr hO.2.2.2.2.1.2) hS hd ?_
          rw [← hN.2.2.2]
          exact k
        · exact va_tlen hx hb (t := ρ 1) (by rw [hE.2 1 (by decide)]; exact hO.2.2.2.2.2.1.2) hS rfl hd k
        · exact va_tlen hx hb (t := ρ 2) (by rw [hE.2 2 (by decide)]; exact hO.2.2.2.2.2.2.1.2) hS rfl hd k
  · exact h.elim

set_option maxHeartbeats 4000000 in
theorem xs_iastore {p : Program} {l : Launch} {e : Env} {R : Room} {s : State} {m : MethodId} {args : Array Value} {below : List Frame} {meth : Method} {c : Code} {Qf : State → Prop} {G : xG} {base : Nat} {f : Nat → Nat → Int32} {N : Nat} {ρ0 : Nat → Nat} {σ0 : xH} {adV : Nat → Nat} {cc : ByteArray} {own : String} {ini : Bool} {nL mc ms d : Nat} {Ts : List Cond} (X : xCtx p R s m args meth c G base f N ρ0 adV cc own ini nL mc ms d Ts) {T : List (List (Option xE))} {rt : Nat} {C : xC} {Q : xQ} (hT : xallT (xwP own ini) T) (hD : xdecT cc 0 T = true) {pc : Nat} {ls : List (Option Value)} {st : List Value} {σ : xH} {b : Nat × Nat}  {len : Nat} {v : Int32} {ax : List Nat} (hf : xfetch T pc = some (.iastore, len, v, ax)) (h : xstp T rt C Q (xKM p l e R s m args below meth c Qf G base f N ρ0 σ0 nL mc ms) pc ls st σ b) : (xKM p l e R s m args below meth c Qf G base f N ρ0 σ0 nL mc ms) pc ls st σ b := by
  obtain ⟨hx, hb, hml, hown, hts, hW, hO, hcs, hfr, hin⟩ := X
  obtain ⟨hd, hwb, hj⟩ := xdecT_at hD hf
  have hw := xallT_at hT hf
  unfold xstp at h
  rw [hf] at h
  dsimp only at h hd
  have h1 : len = 1 := Nat.eq_of_beq_eq_true hwb
  subst h1
  split at h
  · rename_i x i o r
    cases hi : xis σ o 20 && Nat.blt 8 o with
    | false => rw [hi] at h; exact h.elim
    | true =>
      rw [hi] at h
      rw [Bool.and_eq_true] at hi
      obtain ⟨hal, hkd⟩ := xis_iff hi.1
      have h9 : 9 ≤ o := Nat.le_of_ble_eq_true hi.2
      simp only [cond_true] at h
      split at h
      · rename_i hin'
        intro ρ H locs cells slots mls hR hS hc hs hn hl hlo hst hE
        obtain ⟨q0, hq0⟩ := xids_of hR ⟨h9, hal⟩
        refine va_iast hx hb hO.2.1 (xwsl_P hR) (xwsl_D hR) hS q0 0 (by rw [xwsl_of hq0, xentry_20 hkd]) rfl (by rw [← xlen_eq (N := σ.2.2.2.2) (o := o) (Nat.lt_of_lt_of_le (by decide) h9)]; exact hin') hd (fun H1 locs1 hP1 _ hS1 => ?_)
        have ho := xset_out hR hq0 hP1
        refine h ρ H1 locs1 cells slots mls (xRel_I hR ⟨h9, hal⟩ (fun j hj => by funext q; exact if_neg (fun z => hj z.1)) ⟨?_, ho.2⟩) hS1 hc hs hn hl hlo (xok_t (xok_t (xok_t hst))) hE
        have e : xw σ.1 o i.toNatClampNeg x o = upd (σ.1 o) i.toNatClampNeg x := by
          funext q
          unfold xw upd
          by_cases hq : q = i.toNatClampNeg
          · rw [if_pos ⟨rfl, hq⟩, if_pos hq]
          · rw [if_neg (fun z => hq z.2), if_neg hq]
        rw [xentry_20 hkd]
        show va_at G.1 vwCl (ρ o, .inl (_, xslots o, .inl (xw σ.1 o i.toNatClampNeg x o))) H1
        rw [e]
        exact ho.1
      · exact h.elim
  · exact h.elim

set_option maxHeartbeats 4000000 in
theorem xs_lastore {p : Program} {l : Launch} {e : Env} {R : Room} {s : State} {m : MethodId} {args : Array Value} {below : List Frame} {meth : Method} {c : Code} {Qf : State → Prop} {G : xG} {base : Nat} {f : Nat → Nat → Int32} {N : Nat} {ρ0 : Nat → Nat} {σ0 : xH} {adV : Nat → Nat} {cc : ByteArray} {own : String} {ini : Bool} {nL mc ms d : Nat} {Ts : List Cond} (X : xCtx p R s m args meth c G base f N ρ0 adV cc own ini nL mc ms d Ts) {T : List (List (Option xE))} {rt : Nat} {C : xC} {Q : xQ} (hT : xallT (xwP own ini) T) (hD : xdecT cc 0 T = true) {pc : Nat} {ls : List (Option Value)} {st : List Value} {σ : xH} {b : Nat × Nat}  {len : Nat} {v : Int32} {ax : List Nat} (hf : xfetch T pc = some (.lastore, len, v, ax)) (h : xstp T rt C Q (xKM p l e R s m args below meth c Qf G base f N ρ0 σ0 nL mc ms) pc ls st σ b) : (xKM p l e R s m args below meth c Qf G base f N ρ0 σ0 nL mc ms) pc ls st σ b := by
  obtain ⟨hx, hb, hml, hown, hts, hW, hO, hcs, hfr, hin⟩ := X
  obtain ⟨hd, hwb, hj⟩ := xdecT_at hD hf
  have hw := xallT_at hT hf
  unfold xstp at h
  rw [hf] at h
  dsimp only at h hd
  have h1 : len = 1 := Nat.eq_of_beq_eq_true hwb
  subst h1
  split at h
  · rename_i x i o r
    cases hi : xis σ o 21 && Nat.blt 8 o with
    | false => rw [hi] at h; exact h.elim
    | true =>
      rw [hi] at h
      rw [Bool.and_eq_true] at hi
      obtain ⟨hal, hkd⟩ := xis_iff hi.1
      have h9 : 9 ≤ o := Nat.le_of_ble_eq_true hi.2
      simp only [cond_true] at h
      split at h
      · rename_i hin'
        intro ρ H locs cells slots mls hR hS hc hs hn hl hlo hst hE
        obtain ⟨q0, hq0⟩ := xids_of hR ⟨h9, hal⟩
        refine va_last hx hb hO.2.1 (xwsl_P hR) (xwsl_D hR) hS q0 1 (by rw [xwsl_of hq0, xentry_21 hkd]) rfl (by rw [← xlen_eq (N := σ.2.2.2.2) (o := o) (Nat.lt_of_lt_of_le (by decide) h9)]; exact hin') hd (fun H1 locs1 hP1 _ hS1 => ?_)
        have ho := xset_out hR hq0 hP1
        refine h ρ H1 locs1 cells slots mls (xRel_L hR (fun j hj => by funext q; exact if_neg (fun z => hj z.1)) ⟨?_, ho.2⟩) hS1 hc hs hn hl hlo (xok_t (xok_t (xok_t hst))) hE
        have e : xwl σ.2.1 o i.toNatClampNeg x o = vp_updL (σ.2.1 o) i.toNatClampNeg x := by
          funext q
          unfold xwl vp_updL
          by_cases hq : q = i.toNatClampNeg
          · rw [if_pos ⟨rfl, hq⟩, if_pos hq]
          · rw [if_neg (fun z => hq z.2), if_neg hq]
        rw [xentry_21 hkd]
        show va_at G.1 vwCl (ρ o, .inl (_, xslots o, .inr (.inl (xwl σ.2.1 o i.toNatClampNeg x o)))) H1
        rw [e]
        exact ho.1
      · exact h.elim
  · exact h.elim
