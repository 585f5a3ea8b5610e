theorem xcnd_mono {c : ClassFile.Cond} {x y : Int32} {A B A' B' : Prop} (ha : A → A') (hb : B → B') : xcnd c x y A B → xcnd c x y A' B' := by
  unfold xcnd
  cases c <;> (dsimp only; split <;> assumption)
theorem xbif_mono {c : Bool} {A A' : Prop} (h : A → A') : (bif c then A else False) → (bif c then A' else False) := by
  cases c
  · exact id
  · exact h
theorem xif_mono {c : Prop} {_ : Decidable c} {A A' : Prop} (h : A → A') : (if c then A else False) → (if c then A' else False) := by
  split
  · exact h
  · exact id
theorem xifn_mono {c : Prop} {_ : Decidable c} {A A' : Prop} (h : A → A') : (if c then False else A) → (if c then False else A') := by
  split
  · exact id
  · exact h
theorem xsw_mono {x : Int32} {pc : Nat} {d : Int} {K K' : Nat → Prop} (h : ∀ q, K q → K' q) : ∀ (os : List Int) (lo : Int), xsw x pc d lo K os → xsw x pc d lo K' os
  | [], lo => h _
  | o :: t, lo => by
    unfold xsw
    split
    · exact h _
    · exact xsw_mono h t (lo + 1)
theorem xsl_mono {x : Int32} {pc : Nat} {d : Int} {K K' : Nat → Prop} (h : ∀ q, K q → K' q) : ∀ (os : List (Int × Int)), xsl x pc d K os → xsl x pc d K' os
  | [] => h _
  | (a, o) :: t => by
    unfold xsl
    split
    · exact h _
    · exact xsl_mono h t
def xCle (C C' : xC) : Prop := ∀ c a σ F G, (∀ r τ, F r τ → G r τ) → C c a σ F → C' c a σ G
def xKle (K K' : xK) : Prop := ∀ pc ls st σ b, K pc ls st σ b → K' pc ls st σ b
theorem xcall_mono {C C' : xC} {K K' : xK} (hC : xCle C C') (hK : xKle K K') {pc : Nat} {ls : List (Option Value)} {c : Nat} {args rest : List Value} {σ : xH} {b : Nat × Nat} : xcall C K pc ls c args rest σ b → xcall C' K' pc ls c args rest σ b := by
  unfold xcall
  refine xbif_mono ?_
  cases Nat.beq (xbud c).1 0
  · exact xbif_mono (hC _ _ _ _ _ fun r τ => hK _ _ _ _ _)
  · exact hC _ _ _ _ _ fun r τ => hK _ _ _ _ _
theorem xnative_mono {K K' : xK} (hK : xKle K K') {f pc : Nat} {ls : List (Option Value)} {st : List Value} {σ : xH} {b : Nat × Nat} : xnative K f pc ls st σ b → xnative K' f pc ls st σ b := by
  unfold xnative
  refine xbif_mono ?_
  split
  · exact xbif_mono (hK _ _ _ _ _)
  · exact xbif_mono (xif_mono (hK _ _ _ _ _))
  · exact hK _ _ _ _ _
  · exact hK _ _ _ _ _
  · rename_i n dp d sp s r
    cases (xis σ s 20 && xis σ d 20 && Nat.blt 8 d)
    · exact xbif_mono (xif_mono (hK _ _ _ _ _))
    · exact xif_mono (hK _ _ _ _ _)
  · exact id
theorem xstp_mono {T : List (List (Option xE))} {rt : Nat} {C C' : xC} {Q Q' : xQ} {K K' : xK} (hC : xCle C C') (hQ : ∀ r τ, Q r τ → Q' r τ) (hK : xKle K K') : xKle (xstp T rt C Q K) (xstp T rt C' Q' K') := by
  intro pc ls st σ b
  unfold xstp
  have hk : ∀ pc ls st σ b, K pc ls st σ b → K' pc ls st σ b := hK
  cases xfetch T pc with
  | none => exact id
  | some q =>
    obtain ⟨i, len, v, ax⟩ := q
    cases i <;> first
      | exact id
      | exact hk _ _ _ _ _
      | (dsimp only; split <;> first
          | exact id
          | exact hk _ _ _ _ _
          | exact xbif_mono (hk _ _ _ _ _)
          | exact xifn_mono (hk _ _ _ _ _)
          | exact xcnd_mono (hk _ _ _ _ _) (hk _ _ _ _ _)
          | exact xsw_mono (fun q => hk _ _ _ _ _) _ _
          | exact xsl_mono (fun q => hk _ _ _ _ _) _
          | exact xbif_mono (xif_mono (hk _ _ _ _ _))
          | exact xcall_mono hC hK
          | exact xbif_mono (xcall_mono hC hK)
          | exact xnative_mono hK
          | exact xbif_mono (hQ _ _)
          | (refine xbif_mono ?_; split <;> first | exact id | exact hk _ _ _ _ _ | (split <;> first | exact id | exact hk _ _ _ _ _))
          | (split <;> first | exact id | exact xbif_mono (xcall_mono hC hK) | exact xbif_mono (hk _ _ _ _ _)))
