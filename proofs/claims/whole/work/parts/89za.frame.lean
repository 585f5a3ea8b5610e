/-! what no run writes: the script, its length -/
def sm0 (σ0 σ : xH) : Prop := σ.1 0 = σ0.1 0 ∧ σ.2.2.2.2 = σ0.2.2.2.2 ∧ 67 ≤ σ.2.2.2.1.1 ∧ 1 ≤ σ.2.2.2.1.2.1 ∧ 1 ≤ σ.2.2.2.1.2.2
theorem sm0_w {σ0 σ : xH} {o k : Nat} {v : Int32} (h : sm0 σ0 σ) (ho : o ≠ 0) : sm0 σ0 (xw σ.1 o k v, σ.2) := by
  refine ⟨?_, h.2⟩
  rw [← h.1]
  funext k'
  exact xw_ne1 (fun q => ho q.symm)
theorem sm0_L {σ0 σ : xH} {M : xL} (h : sm0 σ0 σ) : sm0 σ0 (σ.1, M, σ.2.2) := h
theorem sm0_R {σ0 σ : xH} {R : xR} (h : sm0 σ0 σ) : sm0 σ0 (σ.1, σ.2.1, R, σ.2.2.2) := h
theorem sm0_cpy {σ0 σ : xH} {s sp d dp n : Nat} (h : sm0 σ0 σ) (hd : d ≠ 0) : sm0 σ0 (xcpy σ.1 s sp d dp n, σ.2) := by
  refine ⟨?_, h.2⟩
  rw [← h.1]
  funext k'
  exact if_neg (fun q => hd q.1.symm)
theorem xis_ne0 {σ : xH} {o c : Nat} (h : xis σ o c = true) (hc : Nat.blt c 25 = true) : o ≠ 0 := by
  rintro rfl
  unfold xis at h
  obtain ⟨_, h⟩ := (Bool.and_eq_true _ _).mp h
  have h : Nat.beq 25 c = true := h
  have := Nat.eq_of_beq_eq_true h
  subst this
  exact absurd hc (by decide)
theorem blt8_ne0 {o : Nat} (h : Nat.blt 8 o = true) : o ≠ 0 := by
  rintro rfl
  exact absurd h (by decide)
theorem sm0_alloc {σ0 σ τ : xH} {id : Nat} (h : sm0 σ0 σ) (e : xalloc σ id = some τ) : sm0 σ0 τ := by
  unfold xalloc at e
  cases g : xnx σ.2.2.2.1 id with
  | none => rw [g] at e; cases e
  | some A =>
    rw [g] at e
    cases e
    obtain ⟨h1, h2, h3, h4, h5⟩ := h
    have key : id ≠ 0 ∧ 67 ≤ A.1 ∧ 1 ≤ A.2.1 ∧ 1 ≤ A.2.2 := by
      unfold xnx at g
      cases c1 : (Nat.beq id σ.2.2.2.1.1 && Nat.blt id 112) with
      | true =>
        rw [c1] at g
        cases g
        have := Nat.eq_of_beq_eq_true ((Bool.and_eq_true _ _).mp c1).1
        exact ⟨by omega, Nat.le_succ_of_le h3, h4, h5⟩
      | false =>
        rw [c1] at g
        dsimp only [cond_false] at g
        cases c2 : (Nat.beq id σ.2.2.2.1.2.1 && Nat.blt id 158) with
        | true =>
          rw [c2] at g
          cases g
          have := Nat.eq_of_beq_eq_true ((Bool.and_eq_true _ _).mp c2).1
          exact ⟨by omega, h3, Nat.le_add_left 1 _, h5⟩
        | false =>
          rw [c2] at g
          dsimp only [cond_false] at g
          cases c3 : (Nat.beq id σ.2.2.2.1.2.2 && Nat.blt id 204) with
          | true =>
            rw [c3] at g
            cases g
            have := Nat.eq_of_beq_eq_true ((Bool.and_eq_true _ _).mp c3).1
            exact ⟨by omega, h3, h4, Nat.le_add_left 1 _⟩
          | false =>
            rw [c3] at g
            cases g
    refine ⟨?_, h2, key.2⟩
    rw [← h1]
    funext k'
    exact if_neg (fun q => key.1 q.symm)
theorem sm0_allocs {σ0 : xH} : ∀ {n o id : Nat} {σ τ : xH}, sm0 σ0 σ → xallocs n o id σ = some τ → sm0 σ0 τ
  | 0, _, _, σ, τ, h, e => by cases e; exact h
  | n + 1, o, id, σ, τ, h, e => by
    unfold xallocs at e
    cases g : xalloc σ id with
    | none => rw [g] at e; cases e
    | some u =>
      rw [g] at e
      exact sm0_allocs (n := n) (sm0_R (sm0_alloc h g)) e
def tEo (e : Option xE) : Bool := match e with
  | some (.putfield _, _, _, c :: _) => Nat.blt c 25
  | _ => true
def tTo (T : List (List (Option xE))) : Bool := T.all (fun r => r.all tEo)
theorem xnth_all {α : Type} {p : α → Bool} {d : α} (hd : p d = true) : ∀ (l : List α) (n : Nat), l.all p = true → p (xnth d l n) = true
  | [], _, _ => hd
  | a :: t, 0, h => by
    rw [List.all_cons] at h
    exact ((Bool.and_eq_true _ _).mp h).1
  | a :: t, n + 1, h => by
    rw [List.all_cons] at h
    exact xnth_all hd t n ((Bool.and_eq_true _ _).mp h).2
theorem tTo_f {T : List (List (Option xE))} (h : tTo T = true) (pc : Nat) : tEo (xfetch T pc) = true :=
  xnth_all (p := tEo) rfl _ _ (xnth_all (p := fun r : List (Option xE) => r.all tEo) rfl T (pc / 8) h)
theorem tTo_meths : xmeths.all (fun m => tTo m.1) = true := by decide +kernel
theorem tTo_code (c : Nat) : tTo (xcode c) = true := xnth_all (p := fun m : List (List (Option xE)) × Nat × Nat => tTo m.1) rfl xmeths c tTo_meths
/-- what a method of a kind returns -/
def rtok (rt : Nat) (r : Option Value) : Prop := ((rt = 1 ∨ rt = 2) → ∃ v, r = some (.int v)) ∧ (rt = 3 → ∃ v, r = some (.long v))
theorem rt_i {rt : Nat} {x : Int32} (h : (Nat.beq rt 1 || (Nat.beq rt 2 && xbool x)) = true) : rtok rt (some (.int x)) := by
  refine ⟨fun _ => ⟨x, rfl⟩, ?_⟩
  rintro rfl
  exact absurd h (by simp)
theorem rt_l {rt : Nat} {x : Int64} (h : Nat.beq rt 3 = true) : rtok rt (some (.long x)) := by
  have := Nat.eq_of_beq_eq_true h
  exact ⟨fun q => by omega, fun _ => ⟨x, rfl⟩⟩
theorem rt_a {rt n : Nat} {r : Option Value} (h : Nat.beq rt n = true) (hn : n = 0 ∨ n = 4) : rtok rt r := by
  have := Nat.eq_of_beq_eq_true h
  exact ⟨fun q => by omega, fun q => by omega⟩
def frC (σ0 : xH) (C : xC) : Prop := ∀ c a σ F, sm0 σ0 σ → C c a σ F → C c a σ (fun r τ => F r τ ∧ sm0 σ0 τ ∧ rtok (xrt c) r)
theorem xcall_fr {σ0 σ : xH} {C : xC} {K : xK} (hC : frC σ0 C) (hm : xCle C C) (hs : sm0 σ0 σ) {pc : Nat} {ls : List (Option Value)} {c : Nat} {args rest : List Value} {b : Nat × Nat} : xcall C (fun pc ls st σ b => sm0 σ0 σ → K pc ls st σ b) pc ls c args rest σ b → xcall C K pc ls c args rest σ b := by
  unfold xcall
  refine xbif_mono ?_
  cases Nat.beq (xbud c).1 0
  · exact xbif_mono (fun h => hm _ _ _ _ _ (fun r τ q => q.1 q.2.1) (hC _ _ _ _ hs h))
  · exact fun h => hm _ _ _ _ _ (fun r τ q => q.1 q.2.1) (hC _ _ _ _ hs h)
theorem xnative_fr {σ0 σ : xH} {K : xK} (hs : sm0 σ0 σ) {f pc : Nat} {ls : List (Option Value)} {st : List Value} {b : Nat × Nat} : xnative (fun pc ls st σ b => sm0 σ0 σ → K pc ls st σ b) f pc ls st σ b → xnative K f pc ls st σ b := by
  have hk : ∀ pc ls st b, (sm0 σ0 σ → K pc ls st σ b) → K pc ls st σ b := fun _ _ _ _ h => h hs
  unfold xnative
  refine xbif_mono ?_
  split
  · exact xbif_mono (hk _ _ _ _)
  · exact xbif_mono (xif_mono (hk _ _ _ _))
  · exact hk _ _ _ _
  · exact hk _ _ _ _
  · rename_i n dp d sp s r
    cases e : (xis σ s 20 && xis σ d 20 && Nat.blt 8 d)
    · exact xbif_mono (xif_mono (fun h => h (sm0_L hs)))
    · exact xif_mono (fun h => h (sm0_cpy hs (blt8_ne0 ((Bool.and_eq_true _ _).mp e).2)))
  · exact id
theorem xbif_k {c : Bool} {A A' : Prop} (h : c = true → A → A') : (bif c then A else False) → (bif c then A' else False) := by
  cases c
  · exact id
  · exact h rfl
theorem xstp_fr {σ0 σ : xH} {T : List (List (Option xE))} {rt : Nat} {C : xC} {Q : xQ} {K : xK} (hT : tTo T = true) (hC : frC σ0 C) (hm : xCle C C) (hs : sm0 σ0 σ) {pc : Nat} {ls : List (Option Value)} {st : List Value} {b : Nat × Nat} : xstp T rt C Q (fun pc ls st σ b => sm0 σ0 σ → K pc ls st σ b) pc ls st σ b → xstp T rt C (fun r τ => Q r τ ∧ sm0 σ0 τ ∧ rtok rt r) K pc ls st σ b := by
  unfold xstp
  have hk : ∀ pc ls st b, (sm0 σ0 σ → K pc ls st σ b) → K pc ls st σ b := fun _ _ _ _ h => h hs
  have ht := tTo_f hT pc
  cases e : xfetch T pc with
  | none => exact id
  | some q =>
    obtain ⟨i, len, v, ax⟩ := q
    rw [e] at ht
    cases i <;> first
      | exact id
      | exact hk _ _ _ _
      | (dsimp only; split <;> first
          | exact id
          | exact hk _ _ _ _
          | exact xbif_mono (hk _ _ _ _)
          | exact xifn_mono (hk _ _ _ _)
          | exact xcnd_mono (hk _ _ _ _) (hk _ _ _ _)
          | exact xsw_mono (fun q => hk _ _ _ _) _ _
          | exact xsl_mono (fun q => hk _ _ _ _) _
          | exact xbif_mono (xif_mono (hk _ _ _ _))
          | exact xcall_fr hC hm hs
          | exact xbif_mono (xcall_fr hC hm hs)
          | exact xnative_fr hs
          | exact xbif_k (fun c h => ⟨h, hs, rt_i c⟩)
          | exact xbif_k (fun c h => ⟨h, hs, rt_l c⟩)
          | exact xbif_k (fun c h => ⟨h, hs, rt_a c (Or.inl rfl)⟩)
          | exact xbif_k (fun c h => ⟨h, hs, rt_a c (Or.inr rfl)⟩)
          | exact xbif_k (fun c => xif_mono (fun h => h (sm0_w hs (blt8_ne0 ((Bool.and_eq_true _ _).mp c).2))))
          | exact xbif_mono (xif_mono (fun h => h (sm0_L hs)))
          | exact xbif_mono (xif_mono (fun h => h (sm0_R hs)))
          | exact xbif_k (fun c h => h (sm0_w hs (xis_ne0 c ht)))
          | exact xbif_k (fun c h => h (sm0_w hs (xis_ne0 ((Bool.and_eq_true _ _).mp c).1 ht)))
          | exact xbif_mono (fun h => h (sm0_R hs))
          | (refine xbif_mono ?_; split <;> first | exact id | exact hk _ _ _ _ | (rename_i g; exact fun h => h (sm0_alloc hs g)) | (rename_i g; split <;> first | exact id | (rename_i g2; exact fun h => h (sm0_allocs (sm0_alloc hs g) g2))))
          | (split <;> first | exact id | exact xbif_mono (xcall_fr hC hm hs) | exact xbif_mono (hk _ _ _ _)))
theorem xEX_fr {σ0 σ : xH} {T : List (List (Option xE))} {rt : Nat} {C : xC} {Q : xQ} (hT : tTo T = true) (hC : frC σ0 C) (hm : xCle C C) (hs : sm0 σ0 σ) {pc : Nat} {ls : List (Option Value)} {st : List Value} {b : Nat × Nat} (h : xEX T rt C Q pc ls st σ b) : xEX T rt C (fun r τ => Q r τ ∧ sm0 σ0 τ ∧ rtok rt r) pc ls st σ b := by
  intro K hK
  exact h (fun pc ls st σ b => sm0 σ0 σ → K pc ls st σ b) (fun pc ls st σ b q hs => hK _ _ _ _ _ (xstp_fr hT hC hm hs q)) hs
theorem xCd_fr {σ0 : xH} : ∀ d, frC σ0 (xCd d)
  | 0 => fun _ _ _ _ _ h => h.elim
  | d + 1 => fun c a σ F hs h => xbif_mono (fun q => xEX_fr (tTo_code c) (xCd_fr d) (xCd_mono d) hs q) h
