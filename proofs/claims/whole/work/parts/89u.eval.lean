/-! constructors: run by a function; what is written is kept as a row -/
abbrev vG : Type := List (Nat × Option (Nat × Int32))
abbrev vS : Type := vG × xR × (Nat × Nat × Nat)
def vI (I : xI) : vG → xI
  | [] => I
  | (o, none) :: t => xwz (vI I t) o
  | (o, some (k, v)) :: t => xw (vI I t) o k v
def vL (L : xL) : vG → xL
  | [] => L
  | (o, none) :: t => xwlz (vL L t) o
  | (_, some _) :: t => vL L t
def vσ (I : xI) (L : xL) (N : Nat) (s : vS) : xH := (vI I s.1, vL L s.1, s.2.1, s.2.2, N)
def vlen (o : Nat) : Nat := (xnth (99, 0) xSh o).2
def vin (i : Int32) (n : Nat) : Bool := decide (xin i n)
def vis (s : vS) (o k : Nat) : Bool := xalive s.2.2 o && Nat.beq (xkind o) k
def valloc (s : vS) (id : Nat) : Option vS := match xnx s.2.2 id with
  | some A => some ((id, none) :: s.1, xset s.2.1 id (xrow id), A)
  | none => none
def vallocs : Nat → Nat → Nat → vS → Option vS
  | 0, _, _, s => some s
  | n + 1, o, id, s => match valloc s id with
    | some t => vallocs n o (id + 1) (t.1, xwr t.2.1 o (id - (o + 1)) (some id), t.2.2)
    | none => none
abbrev vN : Type := Nat × List (Option Value) × List Value × vS × (Nat × Nat)
def vb {α : Type} (c : Bool) (x : α) : Option α := bif c then some x else none
theorem vb_ok {α : Type} {c : Bool} {x y : α} (h : vb c x = some y) : c = true ∧ x = y := by
  cases c
  · cases h
  · exact ⟨rfl, Option.some.inj h⟩
def vcnd (c : ClassFile.Cond) (x y : Int32) : Bool := match c with
  | .eq => decide (x = y)
  | .ne => !(decide (x = y))
  | .lt => decide (x < y)
  | .ge => !(decide (x < y))
  | .gt => decide (y < x)
  | .le => !(decide (y < x))
theorem vcnd_ok {c : ClassFile.Cond} {x y : Int32} {A B : Prop} (h : bif vcnd c x y then A else B) : xcnd c x y A B := by
  cases c <;> simp only [vcnd, xcnd] at h ⊢
  · by_cases q : x = y
    · rw [decide_eq_true q] at h; rw [if_pos q]; exact h
    · rw [decide_eq_false q] at h; rw [if_neg q]; exact h
  · by_cases q : x = y
    · rw [decide_eq_true q] at h; rw [if_pos q]; exact h
    · rw [decide_eq_false q] at h; rw [if_neg q]; exact h
  · by_cases q : x < y
    · rw [decide_eq_true q] at h; rw [if_pos q]; exact h
    · rw [decide_eq_false q] at h; rw [if_neg q]; exact h
  · by_cases q : x < y
    · rw [decide_eq_true q] at h; rw [if_pos q]; exact h
    · rw [decide_eq_false q] at h; rw [if_neg q]; exact h
  · by_cases q : y < x
    · rw [decide_eq_true q] at h; rw [if_pos q]; exact h
    · rw [decide_eq_false q] at h; rw [if_neg q]; exact h
  · by_cases q : y < x
    · rw [decide_eq_true q] at h; rw [if_pos q]; exact h
    · rw [decide_eq_false q] at h; rw [if_neg q]; exact h
/-- one instruction -/
def vst (i : Instr) (len : Nat) (v : Int32) (ax : List Nat) (pc : Nat) (ls : List (Option Value)) (st : List Value) (s : vS) (b : Nat × Nat) : Option vN := match i with
  | .iconst _ => some (pc + len, ls, .int v :: st, s, b)
  | .bipush _ => some (pc + len, ls, .int v :: st, s, b)
  | .sipush _ => some (pc + len, ls, .int v :: st, s, b)
  | .iload_n k => match xget ls k.val with
    | some (.int x) => some (pc + len, ls, .int x :: st, s, b)
    | _ => none
  | .aload_n k => match xget ls k.val with
    | some (.ref x) => some (pc + len, ls, .ref x :: st, s, b)
    | _ => none
  | .aload k => match xget ls k with
    | some (.ref x) => some (pc + len, ls, .ref x :: st, s, b)
    | _ => none
  | .istore_n k => match st with
    | .int x :: r => vb (Nat.blt k.val ls.length) (pc + len, xst1 ls k.val (.int x), r, s, b)
    | _ => none
  | .iinc k _ => match xget ls k with
    | some (.int x) => vb (Nat.blt k ls.length) (pc + len, xst1 ls k (.int (x + v)), st, s, b)
    | _ => none
  | .dup => match st with
    | .int x :: r => some (pc + len, ls, .int x :: .int x :: r, s, b)
    | .ref x :: r => some (pc + len, ls, .ref x :: .ref x :: r, s, b)
    | _ => none
  | .goto o => some (xjmp pc o, ls, st, s, b)
  | .if_icmp c o => match st with
    | .int y :: .int x :: r => some (bif vcnd c x y then xjmp pc o else pc + len, ls, r, s, b)
    | _ => none
  | .getfield _ => match ax, st with
    | [c, k, 2], .ref o :: r => vb (vis s o c) (pc + len, ls, xref (xnth none (xnth [] s.2.1 o) k) :: r, s, b)
    | _, _ => none
  | .putfield _ => match ax, st with
    | [c, k, 0], .int x :: .ref o :: r => vb (vis s o c) (pc + len, ls, r, ((o, some (k, x)) :: s.1, s.2), b)
    | [c, k, 1], .int x :: .ref o :: r => vb (vis s o c && xbool x) (pc + len, ls, r, ((o, some (k, x)) :: s.1, s.2), b)
    | [c, k, 2], .ref x :: .ref o :: r => vb (vis s o c && xalive s.2.2 x) (pc + len, ls, r, (s.1, xwr s.2.1 o k (some x), s.2.2), b)
    | _, _ => none
  | .arraylength => match st with
    | .ref a :: r => vb (xalive s.2.2 a && Nat.ble 20 (xkind a) && !(Nat.beq (xkind a) 24) && !(Nat.beq a 0)) (pc + len, ls, .int (Int32.ofNat (vlen a)) :: r, s, b)
    | _ => none
  | .aaload => match st with
    | .int i :: .ref a :: r => vb ((vis s a 22 || vis s a 23) && xgrid (xnth [] s.2.1 a) (a + 1) && vin i (vlen a) && !(Nat.beq a 0)) (pc + len, ls, .ref (a + 1 + i.toNatClampNeg) :: r, s, b)
    | _ => none
  | .iastore => match st with
    | .int x :: .int i :: .ref a :: r => vb (vis s a 20 && Nat.blt 8 a && vin i (vlen a) && !(Nat.beq a 0)) (pc + len, ls, r, ((a, some (i.toNatClampNeg, x)) :: s.1, s.2), b)
    | _ => none
  | .aastore => match st with
    | .ref x :: .int i :: .ref a :: r => vb (vis s a 22 && vis s x 20 && Nat.blt 8 a && vin i (vlen a) && !(Nat.beq a 0)) (pc + len, ls, r, (s.1, xwr s.2.1 a i.toNatClampNeg (some x), s.2.2), b)
    | _ => none
  | .new _ => match ax with
    | [c, rel, off] => match valloc s (xid ls rel off) with
      | some t => vb (Nat.beq (xkind (xid ls rel off)) c && Nat.blt 0 b.1 && Nat.ble (xnth (99, 0) xSh (xid ls rel off)).2 b.2) (pc + len, ls, .ref (xid ls rel off) :: st, t, (b.1 - 1, b.2 - (xnth (99, 0) xSh (xid ls rel off)).2))
      | none => none
    | _ => none
  | .newarray _ => match ax, st with
    | [c, rel, off], .int n :: r => match valloc s (xid ls rel off) with
      | some t => vb (Nat.beq (xkind (xid ls rel off)) c && Nat.blt 0 b.1 && Nat.ble (xnth (99, 0) xSh (xid ls rel off)).2 b.2 && decide (n = Int32.ofNat (xnth (99, 0) xSh (xid ls rel off)).2)) (pc + len, ls, .ref (xid ls rel off) :: r, t, (b.1 - 1, b.2 - (xnth (99, 0) xSh (xid ls rel off)).2))
      | none => none
    | _, _ => none
  | .anewarray _ => match ax, st with
    | [rel, off], .int n :: r => match valloc s (xid ls rel off) with
      | some t => vb (Nat.beq (xkind (xid ls rel off)) 22 && Nat.blt 0 b.1 && Nat.ble (xnth (99, 0) xSh (xid ls rel off)).2 b.2 && decide (n = Int32.ofNat (xnth (99, 0) xSh (xid ls rel off)).2)) (pc + len, ls, .ref (xid ls rel off) :: r, t, (b.1 - 1, b.2 - (xnth (99, 0) xSh (xid ls rel off)).2))
      | none => none
    | _, _ => none
  | .multianewarray _ _ => match ax, st with
    | [c, n, k, rel, off], .int y :: .int x :: r => match valloc s (xid ls rel off) with
      | some t => match vallocs n (xid ls rel off) (xid ls rel off + 1) t with
        | some u => vb (Nat.beq (xkind (xid ls rel off)) c && Nat.beq n (xnth (99, 0) xSh (xid ls rel off)).2 && xrows n (xid ls rel off + 1) (c - 2) k && decide (x = Int32.ofNat n) && decide (y = Int32.ofNat k) && Nat.ble (1 + n) b.1 && Nat.ble (n + n * k) b.2) (pc + len, ls, .ref (xid ls rel off) :: r, u, (b.1 - (1 + n), b.2 - (n + n * k)))
        | none => none
      | none => none
    | _, _ => none
  | .invokespecial _ => match ax with
    | [_] => match st with
      | .ref _ :: r => vb (Nat.ble r.length 4) (pc + len, ls, r, s, b)
      | _ => none
    | _ => none
  | _ => none
theorem xlen_v {N o : Nat} (h : (!(Nat.beq o 0)) = true) : xlen N o = vlen o := by
  unfold xlen vlen
  cases e : Nat.beq o 0
  · rfl
  · rw [e] at h; cases h
theorem valloc_ok {I : xI} {L : xL} {N id : Nat} {s t : vS} (h : valloc s id = some t) : xalloc (vσ I L N s) id = some (vσ I L N t) := by
  unfold valloc at h
  unfold xalloc
  show (match xnx s.2.2 id with | some A => _ | none => none) = _
  cases e : xnx s.2.2 id with
  | none => rw [e] at h; cases h
  | some A => rw [e] at h; cases h; rfl
theorem vallocs_ok {I : xI} {L : xL} {N : Nat} : ∀ {n o id : Nat} {s t : vS}, vallocs n o id s = some t → xallocs n o id (vσ I L N s) = some (vσ I L N t)
  | 0, _, _, s, t, h => by cases h; rfl
  | n + 1, o, id, s, t, h => by
    unfold vallocs at h
    unfold xallocs
    cases e : valloc s id with
    | none => rw [e] at h; cases h
    | some u =>
      rw [e] at h
      rw [valloc_ok e]
      exact vallocs_ok (n := n) h
theorem vst_ok {T : List (List (Option xE))} {rt : Nat} {C : xC} {Q : xQ} {K : xK} {I : xI} {L : xL} {N : Nat} {i : Instr} {len : Nat} {v : Int32} {ax : List Nat} {pc : Nat} {ls : List (Option Value)} {st : List Value} {s : vS} {b : Nat × Nat} {q : vN} (e : xfetch T pc = some (i, len, v, ax)) (h : vst i len v ax pc ls st s b = some q) (k : K q.1 q.2.1 q.2.2.1 (vσ I L N q.2.2.2.1) q.2.2.2.2) : xstp T rt C Q K pc ls st (vσ I L N s) b := by
  unfold xstp
  rw [e]
  cases i with
  | iconst n => cases h; exact k
  | bipush n => cases h; exact k
  | sipush n => cases h; exact k
  | iload_n n =>
    dsimp only [vst] at h ⊢
    split at h
    · rename_i x g
      cases h
      rw [g]; exact k
    · cases h
  | aload_n n =>
    dsimp only [vst] at h ⊢
    split at h
    · rename_i x g
      cases h
      rw [g]; exact k
    · cases h
  | aload n =>
    dsimp only [vst] at h ⊢
    split at h
    · rename_i x g
      cases h
      rw [g]; exact k
    · cases h
  | istore_n n =>
    dsimp only [vst] at h ⊢
    split at h
    · obtain ⟨c, rfl⟩ := vb_ok h
      dsimp only
      rw [c]; exact k
    · cases h
  | iinc n w =>
    dsimp only [vst] at h ⊢
    split at h
    · rename_i x g
      obtain ⟨c, rfl⟩ := vb_ok h
      rw [g]
      dsimp only
      rw [c]; exact k
    · cases h
  | dup =>
    dsimp only [vst] at h ⊢
    split at h
    · cases h; exact k
    · cases h; exact k
    · cases h
  | goto o => cases h; exact k
  | if_icmp c o =>
    dsimp only [vst] at h ⊢
    split at h
    · cases h
      refine vcnd_ok ?_
      revert k
      dsimp only
      generalize vcnd _ _ _ = w
      cases w
      · exact fun k => k
      · exact fun k => k
    · cases h
  | getfield n =>
    dsimp only [vst] at h ⊢
    split at h
    · obtain ⟨c, rfl⟩ := vb_ok h
      dsimp only
      exact (show (bif vis s _ _ then _ else False) from by rw [c]; exact k)
    · cases h
  | putfield n =>
    dsimp only [vst] at h ⊢
    split at h
    · obtain ⟨c, rfl⟩ := vb_ok h
      exact (show (bif vis s _ _ then _ else False) from by rw [c]; exact k)
    · obtain ⟨c, rfl⟩ := vb_ok h
      exact (show (bif vis s _ _ && xbool _ then _ else False) from by rw [c]; exact k)
    · obtain ⟨c, rfl⟩ := vb_ok h
      exact (show (bif vis s _ _ && xalive s.2.2 _ then _ else False) from by rw [c]; exact k)
    · cases h
  | arraylength =>
    dsimp only [vst] at h ⊢
    split at h
    · obtain ⟨c, rfl⟩ := vb_ok h
      obtain ⟨c1, c2⟩ := (Bool.and_eq_true _ _).mp c
      rw [← xlen_v (N := N) c2] at k
      exact (show (bif xalive s.2.2 _ && Nat.ble 20 (xkind _) && !(Nat.beq (xkind _) 24) then _ else False) from by rw [c1]; exact k)
    · cases h
  | aaload =>
    dsimp only [vst] at h ⊢
    split at h
    · obtain ⟨c, rfl⟩ := vb_ok h
      obtain ⟨c1, c2⟩ := (Bool.and_eq_true _ _).mp c
      obtain ⟨c3, c4⟩ := (Bool.and_eq_true _ _).mp c1
      have c5 := of_decide_eq_true c4
      exact (show (bif (vis s _ 22 || vis s _ 23) && xgrid (xnth [] s.2.1 _) _ then _ else False) from by
        rw [c3]
        show (if xin _ (xlen N _) then _ else False)
        rw [xlen_v c2, if_pos c5]
        exact k)
    · cases h
  | iastore =>
    dsimp only [vst] at h ⊢
    split at h
    · obtain ⟨c, rfl⟩ := vb_ok h
      obtain ⟨c1, c2⟩ := (Bool.and_eq_true _ _).mp c
      obtain ⟨c3, c4⟩ := (Bool.and_eq_true _ _).mp c1
      have c5 := of_decide_eq_true c4
      exact (show (bif vis s _ 20 && Nat.blt 8 _ then _ else False) from by
        rw [c3]
        show (if xin _ (xlen N _) then _ else False)
        rw [xlen_v c2, if_pos c5]
        exact k)
    · cases h
  | aastore =>
    dsimp only [vst] at h ⊢
    split at h
    · obtain ⟨c, rfl⟩ := vb_ok h
      obtain ⟨c1, c2⟩ := (Bool.and_eq_true _ _).mp c
      obtain ⟨c3, c4⟩ := (Bool.and_eq_true _ _).mp c1
      have c5 := of_decide_eq_true c4
      exact (show (bif vis s _ 22 && vis s _ 20 && Nat.blt 8 _ then _ else False) from by
        rw [c3]
        show (if xin _ (xlen N _) then _ else False)
        rw [xlen_v c2, if_pos c5]
        exact k)
    · cases h
  | new n =>
    dsimp only [vst] at h ⊢
    split at h
    · split at h
      · rename_i t g
        obtain ⟨c, rfl⟩ := vb_ok h
        dsimp only
        rw [c, valloc_ok g]
        exact k
      · cases h
    · cases h
  | newarray n =>
    dsimp only [vst] at h ⊢
    split at h
    · split at h
      · rename_i t g
        obtain ⟨c, rfl⟩ := vb_ok h
        dsimp only
        rw [c, valloc_ok g]
        exact k
      · cases h
    · cases h
  | anewarray n =>
    dsimp only [vst] at h ⊢
    split at h
    · split at h
      · rename_i t g
        obtain ⟨c, rfl⟩ := vb_ok h
        dsimp only
        rw [c, valloc_ok g]
        exact k
      · cases h
    · cases h
  | multianewarray n w =>
    dsimp only [vst] at h ⊢
    split at h
    · split at h
      · rename_i t g
        split at h
        · rename_i u g2
          obtain ⟨c, rfl⟩ := vb_ok h
          dsimp only
          rw [c, valloc_ok g]
          dsimp only [cond_true]
          rw [vallocs_ok g2]
          exact k
        · cases h
      · cases h
    · cases h
  | invokespecial n =>
    dsimp only [vst] at h ⊢
    split at h
    · split at h
      · obtain ⟨c, rfl⟩ := vb_ok h
        dsimp only
        rw [c]; exact k
      · cases h
    · cases h
  | _ => cases h
/-- a call -/
def vcl (i : Instr) (ax : List Nat) (st : List Value) (s : vS) : Option (Nat × List Value × List Value) := match i with
  | .invokestatic _ => match ax with
    | [c, n, _, _] => vb (Nat.ble n st.length) (c, (xpopN n [] st).1, (xpopN n [] st).2)
    | _ => none
  | .invokevirtual _ => match ax with
    | [c, n, k, _] => match (xpopN (n + 1) [] st).1 with
      | .ref o :: as => vb (Nat.ble (n + 1) st.length && vis s o k) (c, .ref o :: as, (xpopN (n + 1) [] st).2)
      | _ => none
    | _ => none
  | .invokespecial _ => match ax with
    | [c, n, k, _] => match (xpopN (n + 1) [] st).1 with
      | .ref o :: as => vb (Nat.ble (n + 1) st.length && vis s o k) (c, .ref o :: as, (xpopN (n + 1) [] st).2)
      | _ => none
    | _ => none
  | _ => none
theorem vcl_ok {T : List (List (Option xE))} {rt : Nat} {C : xC} {Q : xQ} {K : xK} {I : xI} {L : xL} {N : Nat} {i : Instr} {len : Nat} {v : Int32} {ax : List Nat} {pc : Nat} {ls : List (Option Value)} {st : List Value} {s : vS} {b : Nat × Nat} {q : Nat × List Value × List Value} (e : xfetch T pc = some (i, len, v, ax)) (h : vcl i ax st s = some q) (k : xcall C K pc ls q.1 q.2.1 q.2.2 (vσ I L N s) b) : xstp T rt C Q K pc ls st (vσ I L N s) b := by
  unfold xstp
  rw [e]
  cases i with
  | invokestatic n =>
    dsimp only [vcl] at h ⊢
    split at h
    · obtain ⟨c, rfl⟩ := vb_ok h
      dsimp only
      rw [c]; exact k
    · cases h
  | invokevirtual n =>
    dsimp only [vcl] at h ⊢
    split at h
    · dsimp only
      split at h
      · rename_i g
        obtain ⟨c, rfl⟩ := vb_ok h
        rw [g]
        exact (show (bif Nat.ble _ _ && vis s _ _ then _ else False) from by rw [c]; exact k)
      · cases h
    · cases h
  | invokespecial n =>
    dsimp only [vcl] at h ⊢
    split at h
    · dsimp only
      split at h
      · rename_i g
        obtain ⟨c, rfl⟩ := vb_ok h
        rw [g]
        exact (show (bif Nat.ble _ _ && vis s _ _ then _ else False) from by rw [c]; exact k)
      · cases h
    · cases h
  | _ => cases h
def vrt (i : Instr) (st : List Value) : Bool := match i, st with
  | .return_, [] => true
  | _, _ => false
def vbok (c : Nat) (b : Nat × Nat) : Bool := bif Nat.beq (xbud c).1 0 then true else Nat.ble (xbud c).1 b.1 && Nat.ble (xbud c).2 b.2
def vbud (c : Nat) (b : Nat × Nat) : Nat × Nat := bif Nat.beq (xbud c).1 0 then b else (b.1 - (xbud c).1, b.2 - (xbud c).2)
abbrev vC : Type := Nat → List Value → vS → Option (Option Value × vS)
def vev (C : vC) (T : List (List (Option xE))) : Nat → Nat → List (Option Value) → List Value → vS → Nat × Nat → Option (Option Value × vS)
  | 0, _, _, _, _, _ => none
  | n + 1, pc, ls, st, s, b => match xfetch T pc with
    | none => none
    | some (i, len, v, ax) => bif vrt i st then some (none, s) else match vcl i ax st s with
      | some q => bif Nat.ble (xcsum q.2.2) 8 && vbok q.1 b then (match C q.1 q.2.1 s with
        | some w => vev C T n (pc + 3) ls (w.1.toList ++ q.2.2) w.2 (vbud q.1 b)
        | none => none) else none
      | none => match vst i len v ax pc ls st s b with
        | some q => vev C T n q.1 q.2.1 q.2.2.1 q.2.2.2.1 q.2.2.2.2
        | none => none
def vcd : Nat → vC
  | 0 => fun _ _ _ => none
  | d + 1 => fun c args s => bif Nat.ble (xent args).length (xmaxL c) && Nat.beq (xrt c) 0 then vev (vcd d) (xcode c) 2000 0 (xpad (xmaxL c) (xent args)) [] s (xbud c) else none
theorem vrt_ok {T : List (List (Option xE))} {C : xC} {Q : xQ} {K : xK} {σ : xH} {i : Instr} {len : Nat} {v : Int32} {ax : List Nat} {pc : Nat} {ls : List (Option Value)} {st : List Value} {b : Nat × Nat} (e : xfetch T pc = some (i, len, v, ax)) (h : vrt i st = true) (k : Q none σ) : xstp T 0 C Q K pc ls st σ b := by
  unfold vrt at h
  split at h
  · unfold xstp
    rw [e]
    exact k
  · cases h
theorem vev_ok {C : vC} {D : Nat} {I : xI} {L : xL} {N : Nat} (hC : ∀ c args s r t, C c args s = some (r, t) → ∀ Q : xQ, Q r (vσ I L N t) → xCd D c args (vσ I L N s) Q) {T : List (List (Option xE))} : ∀ n pc ls st s b r t, vev C T n pc ls st s b = some (r, t) → ∀ Q : xQ, Q r (vσ I L N t) → xEX T 0 (xCd D) Q pc ls st (vσ I L N s) b
  | 0, _, _, _, _, _, _, _, h, _, _ => by cases h
  | n + 1, pc, ls, st, s, b, r, t, h, Q, hQ => by
    refine xEX_in ?_
    unfold vev at h
    cases e : xfetch T pc with
    | none => rw [e] at h; cases h
    | some q =>
      obtain ⟨i, len, v, ax⟩ := q
      rw [e] at h
      dsimp only at h
      cases g : vrt i st with
      | true =>
        rw [g] at h
        cases h
        exact vrt_ok e g hQ
      | false =>
        rw [g] at h
        dsimp only [cond_false] at h
        cases g2 : vcl i ax st s with
        | some q =>
          rw [g2] at h
          dsimp only at h
          refine vcl_ok e g2 ?_
          cases g3 : (Nat.ble (xcsum q.2.2) 8 && vbok q.1 b) with
          | false => rw [g3] at h; cases h
          | true =>
            rw [g3] at h
            dsimp only [cond_true] at h
            obtain ⟨c1, c2⟩ := (Bool.and_eq_true _ _).mp g3
            cases g4 : C q.1 q.2.1 s with
            | none => rw [g4] at h; cases h
            | some w =>
              rw [g4] at h
              dsimp only at h
              unfold xcall
              rw [c1]
              dsimp only [cond_true]
              have k := hC _ _ _ w.1 w.2 g4
              unfold vbok at c2
              unfold vbud at h
              cases g5 : Nat.beq (xbud q.1).1 0 with
              | true =>
                rw [g5] at h
                exact k _ (vev_ok hC n _ _ _ _ _ _ _ h Q hQ)
              | false =>
                rw [g5] at h c2
                dsimp only [cond_false] at c2 h ⊢
                rw [c2]
                exact k _ (vev_ok hC n _ _ _ _ _ _ _ h Q hQ)
        | none =>
          rw [g2] at h
          dsimp only at h
          cases g3 : vst i len v ax pc ls st s b with
          | none => rw [g3] at h; cases h
          | some q =>
            rw [g3] at h
            exact vst_ok e g3 (vev_ok hC n _ _ _ _ _ _ _ h Q hQ)
theorem vcd_ok {I : xI} {L : xL} {N : Nat} : ∀ d c args s r t, vcd d c args s = some (r, t) → ∀ Q : xQ, Q r (vσ I L N t) → xCd d c args (vσ I L N s) Q
  | 0, _, _, _, _, _, h, _, _ => by cases h
  | d + 1, c, args, s, r, t, h, Q, hQ => by
    unfold vcd at h
    cases g : (Nat.ble (xent args).length (xmaxL c) && Nat.beq (xrt c) 0) with
    | false => rw [g] at h; cases h
    | true =>
      rw [g] at h
      dsimp only [cond_true] at h
      obtain ⟨c1, c2⟩ := (Bool.and_eq_true _ _).mp g
      exact xin_ rfl (Nat.eq_of_beq_eq_true c2) rfl c1 (vev_ok (fun c args s r t => vcd_ok d c args s r t) 2000 _ _ _ _ _ _ _ h Q hQ)
/-- what a row of writings leaves -/
def vget : vG → Nat → Nat → Option Int32
  | [], _, _ => none
  | (o, none) :: t, o', k' => bif Nat.beq o' o then some 0 else vget t o' k'
  | (o, some (k, v)) :: t, o', k' => bif Nat.beq o' o && Nat.beq k' k then some v else vget t o' k'
theorem vget_some {I : xI} : ∀ {g : vG} {o k : Nat} {v : Int32}, vget g o k = some v → vI I g o k = v
  | (o, none) :: t, o', k', v, h => by
    unfold vget at h
    show (if o' = o then 0 else vI I t o' k') = v
    cases e : Nat.beq o' o with
    | true => rw [e] at h; rw [if_pos (Nat.eq_of_beq_eq_true e)]; exact Option.some.inj h
    | false => rw [e] at h; rw [if_neg (Nat.ne_of_beq_eq_false e)]; exact vget_some h
  | (o, some (k, w)) :: t, o', k', v, h => by
    unfold vget at h
    show (if o' = o ∧ k' = k then w else vI I t o' k') = v
    cases e : (Nat.beq o' o && Nat.beq k' k) with
    | true =>
      rw [e] at h
      obtain ⟨c1, c2⟩ := (Bool.and_eq_true _ _).mp e
      rw [if_pos ⟨Nat.eq_of_beq_eq_true c1, Nat.eq_of_beq_eq_true c2⟩]; exact Option.some.inj h
    | false =>
      rw [e] at h
      rw [if_neg (fun q => by
        rw [q.1, q.2, Nat.beq_refl, Nat.beq_refl] at e; cases e)]
      exact vget_some h
theorem vI_out {I : xI} {a c : Nat} : ∀ {g : vG}, (g.all (fun e => Nat.ble a e.1 && Nat.blt e.1 c)) = true → ∀ {o : Nat}, (o < a ∨ c ≤ o) → ∀ k, vI I g o k = I o k
  | [], _, _, _, _ => rfl
  | (o, none) :: t, h, o', ho, k => by
    rw [List.all_cons] at h
    obtain ⟨c1, c2⟩ := (Bool.and_eq_true _ _).mp h
    obtain ⟨d1, d2⟩ := (Bool.and_eq_true _ _).mp c1
    have d1 := Nat.le_of_ble_eq_true d1
    have d2 : o < c := Nat.le_of_ble_eq_true d2
    show (if o' = o then 0 else vI I t o' k) = _
    have d1 : a ≤ o := d1
    rw [if_neg (by omega)]
    exact vI_out c2 ho k
  | (o, some (j, w)) :: t, h, o', ho, k => by
    rw [List.all_cons] at h
    obtain ⟨c1, c2⟩ := (Bool.and_eq_true _ _).mp h
    obtain ⟨d1, d2⟩ := (Bool.and_eq_true _ _).mp c1
    have d1 := Nat.le_of_ble_eq_true d1
    have d2 : o < c := Nat.le_of_ble_eq_true d2
    have d1 : a ≤ o := d1
    show (if o' = o ∧ k = j then w else vI I t o' k) = _
    rw [if_neg (by omega)]
    exact vI_out c2 ho k
theorem vL_out {L : xL} {a c : Nat} : ∀ {g : vG}, (g.all (fun e => Nat.ble a e.1 && Nat.blt e.1 c)) = true → ∀ {o : Nat}, (o < a ∨ c ≤ o) → ∀ k, vL L g o k = L o k
  | [], _, _, _, _ => rfl
  | (o, none) :: t, h, o', ho, k => by
    rw [List.all_cons] at h
    obtain ⟨c1, c2⟩ := (Bool.and_eq_true _ _).mp h
    obtain ⟨d1, d2⟩ := (Bool.and_eq_true _ _).mp c1
    have d1 := Nat.le_of_ble_eq_true d1
    have d2 : o < c := Nat.le_of_ble_eq_true d2
    show (if o' = o then 0 else vL L t o' k) = _
    have d1 : a ≤ o := d1
    rw [if_neg (by omega)]
    exact vL_out c2 ho k
  | (o, some (j, w)) :: t, h, o', ho, k => by
    rw [List.all_cons] at h
    exact vL_out ((Bool.and_eq_true _ _).mp h).2 ho k
/-- a long cell that is made anew is all 0 -/
def vnew : vG → Nat → Bool
  | [], _ => false
  | (o, none) :: t, o' => Nat.beq o' o || vnew t o'
  | (_, some _) :: t, o' => vnew t o'
theorem vL_new {L : xL} : ∀ {g : vG} {o : Nat}, vnew g o = true → ∀ k, vL L g o k = 0
  | [], _, h, _ => by cases h
  | (o, none) :: t, o', h, k => by
    show (if o' = o then 0 else vL L t o' k) = _
    by_cases e : o' = o
    · rw [if_pos e]
    · rw [if_neg e]
      unfold vnew at h
      rcases (Bool.or_eq_true _ _).mp h with h | h
      · exact absurd (Nat.eq_of_beq_eq_true h) e
      · exact vL_new h k
  | (o, some (j, w)) :: t, o', h, k => vL_new (g := t) h k
