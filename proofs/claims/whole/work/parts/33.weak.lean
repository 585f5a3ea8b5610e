/-! more locals do no harm -/
def xle : List (Option Value) → List (Option Value) → Prop
  | [], [] => True
  | none :: t, _ :: t' => xle t t'
  | some v :: t, o :: t' => o = some v ∧ xle t t'
  | _, _ => False
theorem xle_get : ∀ {l l' : List (Option Value)}, xle l l' → ∀ (k : Nat) (v : Value), xget l k = some v → xget l' k = some v
  | [], _, _, 0, _, e => nomatch e
  | [], _, _, _ + 1, _, e => nomatch e
  | none :: _, [], h, _, _, _ => False.elim h
  | none :: _, _ :: _, _, 0, _, e => nomatch e
  | none :: t, _ :: t', h, k + 1, v, e => xle_get (l := t) (l' := t') h k v e
  | some _ :: _, [], h, _, _, _ => False.elim h
  | some _ :: _, _ :: _, h, 0, _, e => Eq.trans (And.left h) e
  | some _ :: _, _ :: _, h, k + 1, v, e => xle_get (And.right h) k v e
theorem xle_len : ∀ {l l' : List (Option Value)}, xle l l' → l.length = l'.length
  | [], [], _ => rfl
  | [], _ :: _, h => False.elim h
  | none :: _, [], h => False.elim h
  | none :: t, _ :: t', h => congrArg (· + 1) (xle_len (l := t) (l' := t') h)
  | some _ :: _, [], h => False.elim h
  | some _ :: _, _ :: _, h => congrArg (· + 1) (xle_len (And.right h))
theorem xle_cons {t t' : List (Option Value)} (h : xle t t') : ∀ a : Option Value, xle (a :: t) (a :: t')
  | none => h
  | some _ => ⟨rfl, h⟩
theorem xle_set : ∀ {l l' : List (Option Value)}, xle l l' → ∀ (k : Nat) (a : Option Value), xle (xset l k a) (xset l' k a)
  | [], [], _, 0, _ => trivial
  | [], [], _, _ + 1, _ => trivial
  | [], _ :: _, h, _, _ => False.elim h
  | none :: _, [], h, _, _ => False.elim h
  | none :: t, _ :: t', h, 0, a => xle_cons (t := t) (t' := t') h a
  | none :: t, _ :: t', h, k + 1, a => xle_set (l := t) (l' := t') h k a
  | some _ :: _, [], h, _, _ => False.elim h
  | some _ :: _, _ :: _, h, 0, a => xle_cons (And.right h) a
  | some _ :: _, _ :: _, h, k + 1, a => ⟨And.left h, xle_set (And.right h) k a⟩
theorem xle_clr : ∀ {l l' : List (Option Value)}, xle l l' → ∀ (k : Nat), xle (xclr l k) (xclr l' k)
  | [], [], _, 0 => trivial
  | [], [], _, 1 => trivial
  | [], [], _, _ + 2 => trivial
  | [], _ :: _, h, _ => False.elim h
  | none :: _, [], h, _ => False.elim h
  | some _ :: _, [], h, _ => False.elim h
  | none :: _, _ :: _, h, 0 => h
  | none :: _, _ :: _, h, 1 => h
  | none :: t, _ :: t', h, k + 2 => xle_clr (l := t) (l' := t') h (k + 1)
  | some _ :: _, _ :: _, h, 0 => h
  | some v :: t, o :: t', h, 1 => by
    obtain ⟨h1, h2⟩ := h
    subst h1
    exact xle_cons h2 _
  | some _ :: _, _ :: _, h, k + 2 => ⟨And.left h, xle_clr (And.right h) (k + 1)⟩
def xRl (l l' : List (Option Value)) : Prop := xle l l' ∧ xget l 0 = xget l' 0
theorem xRl_st1 {l l' : List (Option Value)} (h : xRl l l') (k : Nat) (v : Value) : xRl (xst1 l k v) (xst1 l' k v) := by
  refine ⟨xle_set (xle_clr h.1 k) k _, ?_⟩
  obtain ⟨h1, h2⟩ := h
  match l, l', h1, h2 with
  | [], [], _, _ => rfl
  | [], _ :: _, h, _ => exact False.elim h
  | none :: _, [], h, _ => exact False.elim h
  | some _ :: _, [], h, _ => exact False.elim h
  | a :: t, a' :: t', _, h2 =>
    have e : a = a' := h2
    subst e
    match k with
    | 0 => rfl
    | 1 => rfl
    | n + 2 => rfl
theorem xRl_st2 {l l' : List (Option Value)} (h : xRl l l') (k : Nat) (v : Value) : xRl (xst2 l k v) (xst2 l' k v) := by
  refine ⟨xle_set (xle_set (xle_clr h.1 k) k _) _ _, ?_⟩
  obtain ⟨h1, h2⟩ := h
  match l, l', h1, h2 with
  | [], [], _, _ => rfl
  | [], _ :: _, h, _ => exact False.elim h
  | none :: _, [], h, _ => exact False.elim h
  | some _ :: _, [], h, _ => exact False.elim h
  | a :: t, a' :: t', _, h2 =>
    have e : a = a' := h2
    subst e
    match k with
    | 0 => rfl
    | 1 => rfl
    | n + 2 => rfl
theorem xcall_ls {C : xC} {K K' : xK} (hC : xCle C C) {ls ls' : List (Option Value)} (hk : ∀ pc st σ b, K pc ls st σ b → K' pc ls' st σ b) {pc : Nat} {c : Nat} {args rest : List Value} {σ : xH} {b : Nat × Nat} : xcall C K pc ls c args rest σ b → xcall C K' pc ls' c args rest σ b := by
  unfold xcall
  refine xbif_mono ?_
  cases Nat.beq (xbud c).1 0
  · exact xbif_mono (hC _ _ _ _ _ fun r τ => hk _ _ _ _)
  · exact hC _ _ _ _ _ fun r τ => hk _ _ _ _
theorem xnative_ls {K K' : xK} {ls ls' : List (Option Value)} (hk : ∀ pc st σ b, K pc ls st σ b → K' pc ls' st σ b) {f pc : Nat} {st : List Value} {σ : xH} {b : Nat × Nat} : xnative K f pc ls st σ b → xnative K' f pc ls' st σ b := by
  unfold xnative
  refine xbif_mono ?_
  split
  · exact xbif_mono (hk _ _ _ _)
  · exact xbif_mono (xif_mono (hk _ _ _ _))
  · exact hk _ _ _ _
  · exact hk _ _ _ _
  · rename_i n dp d sp s r
    cases (xis σ s 20 && xis σ d 20 && Nat.blt 8 d)
    · exact xbif_mono (xif_mono (hk _ _ _ _))
    · exact xif_mono (hk _ _ _ _)
  · exact id
theorem xstp_ls {T : List (List (Option xE))} {rt : Nat} {C : xC} {Q : xQ} {K K' : xK} (hC : xCle C C) (hK : ∀ pc ls st σ b, K pc ls st σ b → ∀ ls', xRl ls ls' → K' pc ls' st σ b) {pc : Nat} {ls : List (Option Value)} {st : List Value} {σ : xH} {b : Nat × Nat} {ls' : List (Option Value)} (hR : xRl ls ls') : xstp T rt C Q K pc ls st σ b → xstp T rt C Q K' pc ls' st σ b := by
  have hk : ∀ pc st σ b, K pc ls st σ b → K' pc ls' st σ b := fun pc st σ b z => hK _ _ _ _ _ z _ hR
  have h1 : ∀ pc k v st σ b, K pc (xst1 ls k v) st σ b → K' pc (xst1 ls' k v) st σ b := fun pc k v st σ b z => hK _ _ _ _ _ z _ (xRl_st1 hR k v)
  have h2 : ∀ pc k v st σ b, K pc (xst2 ls k v) st σ b → K' pc (xst2 ls' k v) st σ b := fun pc k v st σ b z => hK _ _ _ _ _ z _ (xRl_st2 hR k v)
  have hl := xle_len hR.1
  have hid : ∀ rel off, xid ls' rel off = xid ls rel off := by
    intro rel off
    unfold xid
    rw [hR.2]
  have hg : ∀ k v, xget ls k = some v → xget ls' k = some v := fun k v => xle_get hR.1 k v
  unfold xstp
  cases xfetch T pc with
  | none => exact id
  | some q =>
    obtain ⟨i, len, v, ax⟩ := q
    cases i <;> first
      | exact id
      | exact hk _ _ _ _
      | (dsimp only; (try rw [← hl]); (try simp only [hid]); split <;> first
          | exact False.elim
          | exact id
          | exact hk _ _ _ _
          | exact xbif_mono (h1 _ _ _ _ _ _)
          | exact xbif_mono (h2 _ _ _ _ _ _)
          | (rename_i heq; rw [hg _ _ heq]; exact hk _ _ _ _)
          | (rename_i heq; rw [hg _ _ heq]; exact xbif_mono (h1 _ _ _ _ _ _))
          | exact xbif_mono (hk _ _ _ _)
          | exact xifn_mono (hk _ _ _ _)
          | exact xcnd_mono (hk _ _ _ _) (hk _ _ _ _)
          | exact xsw_mono (fun q => hk _ _ _ _) _ _
          | exact xsl_mono (fun q => hk _ _ _ _) _
          | exact xbif_mono (xif_mono (hk _ _ _ _))
          | exact xcall_ls hC hk
          | exact xbif_mono (xcall_ls hC hk)
          | exact xnative_ls hk
          | (refine xbif_mono ?_; split <;> first | exact id | exact hk _ _ _ _ | (split <;> first | exact id | exact hk _ _ _ _))
          | (split <;> first | exact id | exact xbif_mono (xcall_ls hC hk) | exact xbif_mono (hk _ _ _ _)))
theorem xwk {T : List (List (Option xE))} {rt d : Nat} {Q : xQ} {pc : Nat} {ls ls' : List (Option Value)} {st : List Value} {σ : xH} {b : Nat × Nat} (hR : xRl ls ls') (h : xEX T rt (xCd d) Q pc ls st σ b) : xEX T rt (xCd d) Q pc ls' st σ b :=
  h (fun pc ls st σ b => ∀ ls', xRl ls ls' → xEX T rt (xCd d) Q pc ls' st σ b) (fun _ _ _ _ _ q _ r => xEX_in (xstp_ls (xCd_mono d) (fun _ _ _ _ _ z => z) r q)) ls' hR
/-- a loop: some measure falls -/
theorem xdown {α : Type} (K : α → Prop) (V : Nat → α → Prop) (h : ∀ n x, V n x → (∀ m y, m < n → V m y → K y) → K x) : ∀ n x, V n x → K x := by
  intro n
  induction n using Nat.strongRecOn with
  | _ n ih => exact fun x hx => h n x hx (fun m y hm hy => ih m hm y hy)
/-- a counted loop -/
theorem xcount (K : Nat → Prop) (n : Nat) (h : ∀ i, i < n → K (i + 1) → K i) (e : K n) : ∀ i, i ≤ n → K i := by
  intro i hi
  have : ∀ j, j ≤ n → K (n - j) := by
    intro j
    induction j with
    | zero => intro _; exact e
    | succ j ih =>
      intro hj
      have q := h (n - (j + 1)) (by omega)
      rw [show n - (j + 1) + 1 = n - j from by omega] at q
      exact q (ih (by omega))
  have q := this (n - i) (by omega)
  rw [show n - (n - i) = i from by omega] at q
  exact q
