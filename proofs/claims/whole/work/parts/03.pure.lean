/-! THE PURE MACHINE: a step over lists and functions; blocks of code are equations of it -/
abbrev xE : Type := Instr × Nat × Int32 × List Nat
abbrev xI : Type := Nat → Nat → Int32
abbrev xL : Type := Nat → Nat → Int64
abbrev xR : Type := List (List (Option Nat))
abbrev xH : Type := xI × xL × xR × (Nat × Nat × Nat) × Nat
def xnth {α : Type} (d : α) : List α → Nat → α
  | [], _ => d
  | a :: _, 0 => a
  | _ :: t, n + 1 => xnth d t n
def xset {α : Type} : List α → Nat → α → List α
  | [], _, _ => []
  | _ :: t, 0, v => v :: t
  | a :: t, n + 1, v => a :: xset t n v
def xw (I : xI) (o k : Nat) (v : Int32) : xI := fun o' k' => if o' = o ∧ k' = k then v else I o' k'
def xwl (I : xL) (o k : Nat) (v : Int64) : xL := fun o' k' => if o' = o ∧ k' = k then v else I o' k'
/-- kind and length of each cell -/
def xSh : List (Nat × Nat) := [(25, 0), (25, 6), (25, 6), (24, 4), (24, 4), (24, 3), (24, 4), (24, 5), (24, 4), (8, 12), (6, 15), (20, 6), (20, 6), (20, 18), (20, 6), (20, 6), (20, 24), (20, 4), (20, 4), (6, 15), (20, 6), (20, 6), (20, 18), (20, 6), (20, 6), (20, 24), (20, 4), (20, 4), (6, 15), (20, 6), (20, 6), (20, 18), (20, 6), (20, 6), (20, 24), (20, 4), (20, 4), (7, 8), (20, 720), (20, 720), (20, 48), (20, 6), (20, 6), (1, 7), (3, 4), (20, 1024), (20, 1024), (20, 1024), (20, 6), (20, 144), (0, 8), (20, 36), (20, 64), (20, 6), (20, 6), (20, 6), (5, 4), (2, 3), (20, 8), (20, 8), (21, 320), (4, 10), (20, 250), (20, 6), (20, 6), (20, 5), (9, 42), (20, 8), (20, 8), (20, 8), (23, 8), (21, 40), (21, 40), (21, 40), (21, 40), (21, 40), (21, 40), (21, 40), (21, 40), (21, 40), (20, 8), (20, 250), (20, 8), (20, 6), (20, 6), (22, 6), (20, 4), (20, 4), (20, 4), (20, 4), (20, 4), (20, 4), (20, 6), (20, 6), (22, 6), (20, 4), (20, 4), (20, 4), (20, 4), (20, 4), (20, 4), (20, 4), (20, 4), (20, 4), (21, 6), (20, 4320), (20, 6), (20, 6), (20, 720), (20, 6), (20, 6), (20, 6), (9, 42), (20, 8), (20, 8), (20, 8), (23, 8), (21, 40), (21, 40), (21, 40), (21, 40), (21, 40), (21, 40), (21, 40), (21, 40), (21, 40), (20, 8), (20, 250), (20, 8), (20, 6), (20, 6), (22, 6), (20, 4), (20, 4), (20, 4), (20, 4), (20, 4), (20, 4), (20, 6), (20, 6), (22, 6), (20, 4), (20, 4), (20, 4), (20, 4), (20, 4), (20, 4), (20, 4), (20, 4), (20, 4), (21, 6), (20, 4320), (20, 6), (20, 6), (20, 720), (20, 6), (20, 6), (20, 6), (9, 42), (20, 8), (20, 8), (20, 8), (23, 8), (21, 40), (21, 40), (21, 40), (21, 40), (21, 40), (21, 40), (21, 40), (21, 40), (21, 40), (20, 8), (20, 250), (20, 8), (20, 6), (20, 6), (22, 6), (20, 4), (20, 4), (20, 4), (20, 4), (20, 4), (20, 4), (20, 6), (20, 6), (22, 6), (20, 4), (20, 4), (20, 4), (20, 4), (20, 4), (20, 4), (20, 4), (20, 4), (20, 4), (21, 6), (20, 4320), (20, 6), (20, 6), (20, 720), (20, 6), (20, 6), (20, 6)]
def xalive (A : Nat × Nat × Nat) (o : Nat) : Bool := Nat.blt o A.1 || (Nat.ble 112 o && Nat.blt o A.2.1) || (Nat.ble 158 o && Nat.blt o A.2.2)
def xkind (o : Nat) : Nat := (xnth (99, 0) xSh o).1
def xlen (N : Nat) (o : Nat) : Nat := bif Nat.beq o 0 then N else (xnth (99, 0) xSh o).2
def xis (σ : xH) (o k : Nat) : Bool := xalive σ.2.2.2.1 o && Nat.beq (xkind o) k
def xisi (σ : xH) (o : Nat) : Bool := xalive σ.2.2.2.1 o && (Nat.beq (xkind o) 20 || Nat.beq (xkind o) 25)
def xref : Option Nat → Value
  | none => .null
  | some a => .ref a
def xfetch (T : List (List (Option xE))) (pc : Nat) : Option xE := xnth none (xnth [] T (pc / 8)) (pc % 8)
def xget (ls : List (Option Value)) (i : Nat) : Option Value := xnth none ls i
/-- a long at i - 1 is gone when i is written -/
def xclr : List (Option Value) → Nat → List (Option Value)
  | a :: t, 1 => (match a with | some (.long _) => none | a => a) :: t
  | a :: t, n + 2 => a :: xclr t (n + 1)
  | l, _ => l
def xst1 (ls : List (Option Value)) (i : Nat) (v : Value) : List (Option Value) := xset (xclr ls i) i (some v)
def xst2 (ls : List (Option Value)) (i : Nat) (v : Value) : List (Option Value) := xset (xset (xclr ls i) i (some v)) (i + 1) none
def xjmp (pc : Nat) (off : Int) : Nat := (Int.ofNat pc + off).toNat
def xcnd (c : ClassFile.Cond) (x y : Int32) (A B : Prop) : Prop := match c with
  | .eq => if x = y then A else B
  | .ne => if x = y then B else A
  | .lt => if x < y then A else B
  | .ge => if x < y then B else A
  | .gt => if y < x then A else B
  | .le => if y < x then B else A
abbrev xQ : Type := Option Value → xH → Prop
abbrev xC : Type := Nat → List Value → xH → xQ → Prop
abbrev xK : Type := Nat → List (Option Value) → List Value → xH → Nat × Nat → Prop
def xpopN : Nat → List Value → List Value → List Value × List Value
  | 0, acc, st => (acc, st)
  | n + 1, acc, v :: st => xpopN n (v :: acc) st
  | _ + 1, acc, [] => (acc, [])
def xent : List Value → List (Option Value)
  | [] => []
  | .long v :: t => some (.long v) :: none :: xent t
  | v :: t => some v :: xent t
def xpad : Nat → List (Option Value) → List (Option Value)
  | 0, _ => []
  | n + 1, [] => none :: xpad n []
  | n + 1, a :: t => a :: xpad n t
def xbud (c : Nat) : Nat × Nat := (bif Nat.beq c 132 then (56, 5754) else bif Nat.beq c 80 then (8, 74) else bif Nat.beq c 110 then (5, 1500) else bif Nat.beq c 17 then (6, 3226) else bif Nat.beq c 52 then (3, 3072) else bif Nat.beq c 0 then (5, 118) else bif Nat.beq c 34 then (3, 336) else bif Nat.beq c 55 then (2, 256) else bif Nat.beq c 186 then (45, 5830) else bif Nat.beq c 296 then (46, 5872) else bif Nat.beq c 233 then (46, 5872) else bif Nat.beq c 234 then (46, 5872) else bif Nat.beq c 303 then (600000, 7302249) else (0, 0))
def xcsum : List Value → Nat
  | [] => 0
  | .long _ :: t => xcsum t + 2
  | .double _ :: t => xcsum t + 2
  | _ :: t => xcsum t + 1
def xcall (C : xC) (K : xK) (pc : Nat) (ls : List (Option Value)) (c : Nat) (args rest : List Value) (σ : xH) (b : Nat × Nat) : Prop :=
  bif Nat.ble (xcsum rest) 8 then
    (bif Nat.beq (xbud c).1 0 then C c args σ (fun r τ => K (pc + 3) ls (r.toList ++ rest) τ b)
     else (bif Nat.ble (xbud c).1 b.1 && Nat.ble (xbud c).2 b.2 then C c args σ (fun r τ => K (pc + 3) ls (r.toList ++ rest) τ (b.1 - (xbud c).1, b.2 - (xbud c).2)) else False))
  else False
def xwz (I : xI) (o : Nat) : xI := fun o' k' => if o' = o then 0 else I o' k'
def xwlz (I : xL) (o : Nat) : xL := fun o' k' => if o' = o then 0 else I o' k'
def xwr (R : xR) (o k : Nat) (v : Option Nat) : xR := xset R o (xset (xnth [] R o) k v)
def xnx (A : Nat × Nat × Nat) (id : Nat) : Option (Nat × Nat × Nat) :=
  bif Nat.beq id A.1 && Nat.blt id 112 then some (A.1 + 1, A.2.1, A.2.2)
  else bif Nat.beq id A.2.1 && Nat.blt id 158 then some (A.1, A.2.1 + 1, A.2.2)
  else bif Nat.beq id A.2.2 && Nat.blt id 204 then some (A.1, A.2.1, A.2.2 + 1) else none
def xrow (id : Nat) : List (Option Nat) := bif Nat.blt (xkind id) 10 || Nat.beq (xkind id) 22 || Nat.beq (xkind id) 23 then List.replicate (xnth (99, 0) xSh id).2 none else []
def xalloc (σ : xH) (id : Nat) : Option xH := match xnx σ.2.2.2.1 id with
  | some A => some (xwz σ.1 id, xwlz σ.2.1 id, xset σ.2.2.1 id (xrow id), A, σ.2.2.2.2)
  | none => none
def xallocs : Nat → Nat → Nat → xH → Option xH
  | 0, _, _, σ => some σ
  | n + 1, o, id, σ => match xalloc σ id with
    | some τ => xallocs n o (id + 1) (τ.1, τ.2.1, xwr τ.2.2.1 o (id - (o + 1)) (some id), τ.2.2.2)
    | none => none
/-- the rows of a grid: n cells from id on, of one kind and length -/
def xrows : Nat → Nat → Nat → Nat → Bool
  | 0, _, _, _ => true
  | n + 1, id, c, k => Nat.beq (xkind id) c && Nat.beq (xnth (99, 0) xSh id).2 k && xrows n (id + 1) c k
def xid (ls : List (Option Value)) (rel off : Nat) : Nat := bif Nat.beq rel 0 then off else match xget ls 0 with
  | some (.ref o) => o + off
  | _ => 999
def xgrid : List (Option Nat) → Nat → Bool
  | [], _ => true
  | some a :: t, o => Nat.beq a o && xgrid t (o + 1)
  | none :: _, _ => false
def xbool (v : Int32) : Bool := decide (v = 0) || decide (v = 1)
abbrev xin (i : Int32) (n : Nat) : Prop := ¬ (i < 0 ∨ n ≤ i.toNatClampNeg)
abbrev xcpOK (n dp sp : Int32) (ld lsr : Nat) : Prop := ¬ n < 0 ∧ ¬ dp < 0 ∧ ¬ sp < 0 ∧ sp.toNatClampNeg + n.toNatClampNeg ≤ lsr ∧ dp.toNatClampNeg + n.toNatClampNeg ≤ ld
def xcpy (I : xI) (s sp d dp n : Nat) : xI := fun o k => if o = d ∧ dp ≤ k ∧ k < dp + n then I s (sp + (k - dp)) else I o k
def xcpl (I : xL) (s sp d dp n : Nat) : xL := fun o k => if o = d ∧ dp ≤ k ∧ k < dp + n then I s (sp + (k - dp)) else I o k
def xtext (o : Nat) : List Nat := bif Nat.beq o 8 then [115, 105, 103, 110] else bif Nat.beq o 7 then [103, 117, 101, 115, 116] else bif Nat.beq o 6 then [115, 111, 114, 116] else bif Nat.beq o 5 then [108, 97, 119] else bif Nat.beq o 4 then [112, 111, 117, 114] else bif Nat.beq o 3 then [99, 117, 112, 115] else []
/-- the offset that a lookupswitch takes -/
def xlook (d : Int) (x : Int) : List (Int × Int) → Int
  | [] => d
  | (a, o) :: t => bif decide (x = a) then o else xlook d x t
def xsw (x : Int32) (pc : Nat) (d lo : Int) (K : Nat → Prop) : List Int → Prop
  | [] => K (xjmp pc d)
  | o :: t => if x = Int32.ofInt lo then K (xjmp pc o) else xsw x pc d (lo + 1) K t
def xsl (x : Int32) (pc : Nat) (d : Int) (K : Nat → Prop) : List (Int × Int) → Prop
  | [] => K (xjmp pc d)
  | (a, o) :: t => if x = Int32.ofInt a then K (xjmp pc o) else xsl x pc d K t
def xnative (K : xK) (f pc : Nat) (ls : List (Option Value)) (st : List Value) (σ : xH) (b : Nat × Nat) : Prop := bif Nat.ble st.length 9 then (match f, st with
  | 902, .ref o :: r => bif Nat.beq (xkind o) 24 && Nat.ble r.length 4 then K (pc + 3) ls (.int (Int32.ofNat (xtext o).length) :: r) σ b else False
  | 903, .int i :: .ref o :: r => bif Nat.beq (xkind o) 24 && Nat.ble r.length 4 then (if xin i (xtext o).length then K (pc + 3) ls (.int (Int32.ofNat (xnth 0 (xtext o) i.toNatClampNeg)) :: r) σ b else False) else False
  | 904, .int y :: .int x :: r => K (pc + 3) ls (.int (if x < y then y else x) :: r) σ b
  | 905, .int y :: .int x :: r => K (pc + 3) ls (.int (if x < y then x else y) :: r) σ b
  | 906, .int n :: .int dp :: .ref d :: .int sp :: .ref s :: r =>
    bif xis σ s 20 && xis σ d 20 && Nat.blt 8 d then (if xcpOK n dp sp (xlen σ.2.2.2.2 d) (xlen σ.2.2.2.2 s) then K (pc + 3) ls r (xcpy σ.1 s sp.toNatClampNeg d dp.toNatClampNeg n.toNatClampNeg, σ.2) b else False)
    else bif xis σ s 21 && xis σ d 21 && Nat.blt 8 d then (if xcpOK n dp sp (xlen σ.2.2.2.2 d) (xlen σ.2.2.2.2 s) then K (pc + 3) ls r (σ.1, xcpl σ.2.1 s sp.toNatClampNeg d dp.toNatClampNeg n.toNatClampNeg, σ.2.2) b else False)
    else False
  | _, _ => False) else False
def xstp (T : List (List (Option xE))) (rt : Nat) (C : xC) (Q : xQ) (K : xK) (pc : Nat) (ls : List (Option Value)) (st : List Value) (σ : xH) (b : Nat × Nat) : Prop :=
  match xfetch T pc with
  | none => False
  | some (i, len, v, ax) => match i with
    | .iconst _ => K (pc + len) ls (.int v :: st) σ b
    | .bipush _ => K (pc + len) ls (.int v :: st) σ b
    | .sipush _ => K (pc + len) ls (.int v :: st) σ b
    | .lconst _ => match ax with
      | [a] => K (pc + len) ls (.long (Int64.ofNat a) :: st) σ b
      | _ => False
    | .ldc2_w _ => match ax with
      | [a] => K (pc + len) ls (.long (Int64.ofNat a) :: st) σ b
      | _ => False
    | .ldc _ => match ax with
      | [0] => K (pc + len) ls (.int v :: st) σ b
      | [s] => K (pc + len) ls (.ref s :: st) σ b
      | _ => False
    | .ldc_w _ => match ax with
      | [0] => K (pc + len) ls (.int v :: st) σ b
      | [s] => K (pc + len) ls (.ref s :: st) σ b
      | _ => False
    | .aconst_null => K (pc + len) ls (.null :: st) σ b
    | .iload_n k => match xget ls k.val with
      | some (.int x) => K (pc + len) ls (.int x :: st) σ b
      | _ => False
    | .iload k => match xget ls k with
      | some (.int x) => K (pc + len) ls (.int x :: st) σ b
      | _ => False
    | .lload_n k => match xget ls k.val with
      | some (.long x) => K (pc + len) ls (.long x :: st) σ b
      | _ => False
    | .lload k => match xget ls k with
      | some (.long x) => K (pc + len) ls (.long x :: st) σ b
      | _ => False
    | .aload_n k => match xget ls k.val with
      | some (.ref x) => K (pc + len) ls (.ref x :: st) σ b
      | _ => False
    | .aload k => match xget ls k with
      | some (.ref x) => K (pc + len) ls (.ref x :: st) σ b
      | _ => False
    | .istore_n k => match st with
      | .int x :: r => bif Nat.blt k.val ls.length then K (pc + len) (xst1 ls k.val (.int x)) r σ b else False
      | _ => False
    | .istore k => match st with
      | .int x :: r => bif Nat.blt k ls.length then K (pc + len) (xst1 ls k (.int x)) r σ b else False
      | _ => False
    | .astore_n k => match st with
      | .ref x :: r => bif Nat.blt k.val ls.length then K (pc + len) (xst1 ls k.val (.ref x)) r σ b else False
      | _ => False
    | .lstore k => match st with
      | .long x :: r => bif Nat.blt (k + 1) ls.length then K (pc + len) (xst2 ls k (.long x)) r σ b else False
      | _ => False
    | .iinc k _ => match xget ls k with
      | some (.int x) => bif Nat.blt k ls.length then K (pc + len) (xst1 ls k (.int (x + v))) st σ b else False
      | _ => False
    | .iadd => match st with
      | .int y :: .int x :: r => K (pc + len) ls (.int (x + y) :: r) σ b
      | _ => False
    | .isub => match st with
      | .int y :: .int x :: r => K (pc + len) ls (.int (x - y) :: r) σ b
      | _ => False
    | .imul => match st with
      | .int y :: .int x :: r => K (pc + len) ls (.int (x * y) :: r) σ b
      | _ => False
    | .idiv => match st with
      | .int y :: .int x :: r => if y = 0 then False else K (pc + len) ls (.int (x / y) :: r) σ b
      | _ => False
    | .irem => match st with
      | .int y :: .int x :: r => if y = 0 then False else K (pc + len) ls (.int (x - x / y * y) :: r) σ b
      | _ => False
    | .ineg => match st with
      | .int x :: r => K (pc + len) ls (.int (-x) :: r) σ b
      | _ => False
    | .iand => match st with
      | .int y :: .int x :: r => K (pc + len) ls (.int (x &&& y) :: r) σ b
      | _ => False
    | .ior => match st with
      | .int y :: .int x :: r => K (pc + len) ls (.int (x ||| y) :: r) σ b
      | _ => False
    | .ishl => match st with
      | .int y :: .int x :: r => K (pc + len) ls (.int (x <<< (y &&& 31)) :: r) σ b
      | _ => False
    | .ishr => match st with
      | .int y :: .int x :: r => K (pc + len) ls (.int (x >>> (y &&& 31)) :: r) σ b
      | _ => False
    | .iushr => match st with
      | .int y :: .int x :: r => K (pc + len) ls (.int (x.toUInt32 >>> (y.toUInt32 &&& Int32.toUInt32 31)).toInt32 :: r) σ b
      | _ => False
    | .i2l => match st with
      | .int x :: r => K (pc + len) ls (.long x.toInt64 :: r) σ b
      | _ => False
    | .l2i => match st with
      | .long x :: r => K (pc + len) ls (.int x.toInt32 :: r) σ b
      | _ => False
    | .i2b => match st with
      | .int x :: r => K (pc + len) ls (.int x.toInt8.toInt32 :: r) σ b
      | _ => False
    | .i2s => match st with
      | .int x :: r => K (pc + len) ls (.int x.toInt16.toInt32 :: r) σ b
      | _ => False
    | .land => match st with
      | .long y :: .long x :: r => K (pc + len) ls (.long (x &&& y) :: r) σ b
      | _ => False
    | .lor => match st with
      | .long y :: .long x :: r => K (pc + len) ls (.long (x ||| y) :: r) σ b
      | _ => False
    | .lshl => match st with
      | .int y :: .long x :: r => K (pc + len) ls (.long (x <<< (y.toInt64 &&& 63)) :: r) σ b
      | _ => False
    | .lcmp => match st with
      | .long y :: .long x :: r => K (pc + len) ls (.int (if x < y then -1 else if x = y then 0 else 1) :: r) σ b
      | _ => False
    | .pop => match st with
      | .int _ :: r => K (pc + len) ls r σ b
      | .ref _ :: r => K (pc + len) ls r σ b
      | _ => False
    | .dup => match st with
      | .int x :: r => K (pc + len) ls (.int x :: .int x :: r) σ b
      | .ref x :: r => K (pc + len) ls (.ref x :: .ref x :: r) σ b
      | _ => False
    | .dup_x1 => match st with
      | .int x :: .ref y :: r => K (pc + len) ls (.int x :: .ref y :: .int x :: r) σ b
      | _ => False
    | .dup2 => match st with
      | .int x :: .ref y :: r => K (pc + len) ls (.int x :: .ref y :: .int x :: .ref y :: r) σ b
      | _ => False
    | .goto o => K (xjmp pc o) ls st σ b
    | .ifCond c o => match st with
      | .int x :: r => xcnd c x 0 (K (xjmp pc o) ls r σ b) (K (pc + len) ls r σ b)
      | _ => False
    | .if_icmp c o => match st with
      | .int y :: .int x :: r => xcnd c x y (K (xjmp pc o) ls r σ b) (K (pc + len) ls r σ b)
      | _ => False
    | .ifnonnull o => match st with
      | .ref _ :: r => K (xjmp pc o) ls r σ b
      | .null :: r => K (pc + len) ls r σ b
      | _ => False
    | .tableswitch d lo _ os => match st with
      | .int x :: r => xsw x pc d lo (fun q => K q ls r σ b) os.toList
      | _ => False
    | .lookupswitch d ps => match st with
      | .int x :: r => xsl x pc d (fun q => K q ls r σ b) ps.toList
      | _ => False
    | .getfield _ => match ax, st with
      | [c, k, t], .ref o :: r => bif xis σ o c then (match t with
        | 2 => K (pc + len) ls (xref (xnth none (xnth [] σ.2.2.1 o) k) :: r) σ b
        | _ => K (pc + len) ls (.int (σ.1 o k) :: r) σ b) else False
      | _, _ => False
    | .putfield _ => match ax, st with
      | [c, k, 0], .int v :: .ref o :: r => bif xis σ o c then K (pc + len) ls r (xw σ.1 o k v, σ.2) b else False
      | [c, k, 1], .int v :: .ref o :: r => bif xis σ o c && xbool v then K (pc + len) ls r (xw σ.1 o k v, σ.2) b else False
      | [c, k, 2], .ref v :: .ref o :: r => bif xis σ o c && xalive σ.2.2.2.1 v then K (pc + len) ls r (σ.1, σ.2.1, xwr σ.2.2.1 o k (some v), σ.2.2.2) b else False
      | _, _ => False
    | .getstatic _ => match ax with
      | [a] => K (pc + len) ls (.ref a :: st) σ b
      | _ => False
    | .arraylength => match st with
      | .ref a :: r => bif xalive σ.2.2.2.1 a && Nat.ble 20 (xkind a) && !(Nat.beq (xkind a) 24) then K (pc + len) ls (.int (Int32.ofNat (xlen σ.2.2.2.2 a)) :: r) σ b else False
      | _ => False
    | .iaload => match st with
      | .int i :: .ref a :: r => bif xisi σ a then (if xin i (xlen σ.2.2.2.2 a) then K (pc + len) ls (.int (σ.1 a i.toNatClampNeg) :: r) σ b else False) else False
      | _ => False
    | .laload => match st with
      | .int i :: .ref a :: r => bif xis σ a 21 then (if xin i (xlen σ.2.2.2.2 a) then K (pc + len) ls (.long (σ.2.1 a i.toNatClampNeg) :: r) σ b else False) else False
      | _ => False
    | .aaload => match st with
      | .int i :: .ref a :: r => bif (xis σ a 22 || xis σ a 23) && xgrid (xnth [] σ.2.2.1 a) (a + 1) then (if xin i (xlen σ.2.2.2.2 a) then K (pc + len) ls (.ref (a + 1 + i.toNatClampNeg) :: r) σ b else False) else False
      | _ => False
    | .iastore => match st with
      | .int x :: .int i :: .ref a :: r => bif xis σ a 20 && Nat.blt 8 a then (if xin i (xlen σ.2.2.2.2 a) then K (pc + len) ls r (xw σ.1 a i.toNatClampNeg x, σ.2) b else False) else False
      | _ => False
    | .lastore => match st with
      | .long x :: .int i :: .ref a :: r => bif xis σ a 21 && Nat.blt 8 a then (if xin i (xlen σ.2.2.2.2 a) then K (pc + len) ls r (σ.1, xwl σ.2.1 a i.toNatClampNeg x, σ.2.2) b else False) else False
      | _ => False
    | .aastore => match st with
      | .ref x :: .int i :: .ref a :: r => bif xis σ a 22 && xis σ x 20 && Nat.blt 8 a then (if xin i (xlen σ.2.2.2.2 a) then K (pc + len) ls r (σ.1, σ.2.1, xwr σ.2.2.1 a i.toNatClampNeg (some x), σ.2.2.2) b else False) else False
      | _ => False
    | .new _ => match ax with
      | [c, rel, off] => bif Nat.beq (xkind (xid ls rel off)) c && Nat.blt 0 b.1 && Nat.ble (xnth (99, 0) xSh (xid ls rel off)).2 b.2 then (match xalloc σ (xid ls rel off) with
        | some τ => K (pc + len) ls (.ref (xid ls rel off) :: st) τ (b.1 - 1, b.2 - (xnth (99, 0) xSh (xid ls rel off)).2)
        | none => False) else False
      | _ => False
    | .newarray _ => match ax, st with
      | [c, rel, off], .int n :: r => bif Nat.beq (xkind (xid ls rel off)) c && Nat.blt 0 b.1 && Nat.ble (xnth (99, 0) xSh (xid ls rel off)).2 b.2 && decide (n = Int32.ofNat (xnth (99, 0) xSh (xid ls rel off)).2) then (match xalloc σ (xid ls rel off) with
        | some τ => K (pc + len) ls (.ref (xid ls rel off) :: r) τ (b.1 - 1, b.2 - (xnth (99, 0) xSh (xid ls rel off)).2)
        | none => False) else False
      | _, _ => False
    | .anewarray _ => match ax, st with
      | [rel, off], .int n :: r => bif Nat.beq (xkind (xid ls rel off)) 22 && Nat.blt 0 b.1 && Nat.ble (xnth (99, 0) xSh (xid ls rel off)).2 b.2 && decide (n = Int32.ofNat (xnth (99, 0) xSh (xid ls rel off)).2) then (match xalloc σ (xid ls rel off) with
        | some τ => K (pc + len) ls (.ref (xid ls rel off) :: r) τ (b.1 - 1, b.2 - (xnth (99, 0) xSh (xid ls rel off)).2)
        | none => False) else False
      | _, _ => False
    | .multianewarray _ _ => match ax, st with
      | [c, n, k, rel, off], .int y :: .int x :: r => bif Nat.beq (xkind (xid ls rel off)) c && Nat.beq n (xnth (99, 0) xSh (xid ls rel off)).2 && xrows n (xid ls rel off + 1) (c - 2) k && decide (x = Int32.ofNat n) && decide (y = Int32.ofNat k) && Nat.ble (1 + n) b.1 && Nat.ble (n + n * k) b.2 then (match xalloc σ (xid ls rel off) with
        | some τ => (match xallocs n (xid ls rel off) (xid ls rel off + 1) τ with
          | some υ => K (pc + len) ls (.ref (xid ls rel off) :: r) υ (b.1 - (1 + n), b.2 - (n + n * k))
          | none => False)
        | none => False) else False
      | _, _ => False
    | .invokestatic _ => match ax with
      | [c, n, _, _] => bif Nat.ble n st.length then xcall C K pc ls c (xpopN n [] st).1 (xpopN n [] st).2 σ b else False
      | [f] => xnative K f pc ls st σ b
      | _ => False
    | .invokevirtual _ => match ax with
      | [c, n, k, _] => match (xpopN (n + 1) [] st).1 with
        | .ref o :: as => bif Nat.ble (n + 1) st.length && xis σ o k then xcall C K pc ls c (.ref o :: as) (xpopN (n + 1) [] st).2 σ b else False
        | _ => False
      | [f] => xnative K f pc ls st σ b
      | _ => False
    | .invokespecial _ => match ax with
      | [c, n, k, _] => match (xpopN (n + 1) [] st).1 with
        | .ref o :: as => bif Nat.ble (n + 1) st.length && xis σ o k then xcall C K pc ls c (.ref o :: as) (xpopN (n + 1) [] st).2 σ b else False
        | _ => False
      | [_] => match st with
        | .ref _ :: r => bif Nat.ble r.length 4 then K (pc + len) ls r σ b else False
        | _ => False
      | _ => False
    | .ireturn => match st with
      | [.int x] => bif Nat.beq rt 1 || (Nat.beq rt 2 && xbool x) then Q (some (.int x)) σ else False
      | _ => False
    | .lreturn => match st with
      | [.long x] => bif Nat.beq rt 3 then Q (some (.long x)) σ else False
      | _ => False
    | .areturn => match st with
      | [.ref x] => bif Nat.beq rt 4 then Q (some (.ref x)) σ else False
      | _ => False
    | .return_ => match st with
      | [] => bif Nat.beq rt 0 then Q none σ else False
      | _ => False
    | _ => False
/-- n steps, that stop at the places S -/
def xrun (T : List (List (Option xE))) (rt : Nat) (C : xC) (Q : xQ) (S : List Nat) (K : xK) : Nat → xK
  | 0 => K
  | n + 1 => xstp T rt C Q (fun pc ls st σ b => bif S.elem pc then K pc ls st σ b else xrun T rt C Q S K n pc ls st σ b)
/-- from here the method comes to an end with Q: the least such thing -/
def xEX (T : List (List (Option xE))) (rt : Nat) (C : xC) (Q : xQ) : xK := fun pc ls st σ b =>
  ∀ K : xK, (∀ pc ls st σ b, xstp T rt C Q K pc ls st σ b → K pc ls st σ b) → K pc ls st σ b

def xR0 (z : Bool × Bool × Nat) : xR := [[],
  [],
  [],
  [],
  [],
  [],
  [],
  [],
  [],
  [some 10, some 19, some 28, some 37, some 43, some 50, some 56, some 57, some 61, some 64, some 65, none],
  [none, none, none, none, none, none, none, some 11, some 12, some 13, some 14, some 15, some 16, some 17, some 18],
  [],
  [],
  [],
  [],
  [],
  [],
  [],
  [],
  [none, none, none, none, none, none, none, some 20, some 21, some 22, some 23, some 24, some 25, some 26, some 27],
  [],
  [],
  [],
  [],
  [],
  [],
  [],
  [],
  [none, none, none, none, none, none, none, some 29, some 30, some 31, some 32, some 33, some 34, some 35, some 36],
  [],
  [],
  [],
  [],
  [],
  [],
  [],
  [],
  [none, none, some 10, some 38, some 39, some 40, some 41, some 42],
  [],
  [],
  [],
  [],
  [],
  [some 10, some 37, some 44, some 48, some 49, none, none],
  [some 45, some 46, some 47, none],
  [],
  [],
  [],
  [],
  [],
  [some 10, some 37, some 51, some 52, some 53, some 54, some 55, none],
  [],
  [],
  [],
  [],
  [],
  [some 10, some 37, some 43, some 50],
  [some 58, some 59, some 60],
  [],
  [],
  [],
  [none, none, some 10, some 37, some 62, some 63, none, none, none, none],
  [],
  [],
  [],
  [],
  [some 67, some 68, some 69, some 70, some 79, some 80, some 81, none, some 82, none, none, some 83, some 84, some 85, some 92, some 93, some 94, none, some 101, some 102, none, bif z.1 then some 112 else none, bif z.2.1 then some 158 else none, none, none, none, none, none, some 103, some 104, none, some 105, none, some 106, some 107, some 108, none, some 109, some 110, none, some 111, none],
  [],
  [],
  [],
  [some 71, some 72, some 73, some 74, some 75, some 76, some 77, some 78],
  [],
  [],
  [],
  [],
  [],
  [],
  [],
  [],
  [],
  [],
  [],
  [],
  [],
  [],
  [some 86, some 87, some 88, some 89, some 90, some 91],
  [],
  [],
  [],
  [],
  [],
  [],
  [],
  [],
  [some 95, some 96, some 97, some 98, some 99, some 100],
  [],
  [],
  [],
  [],
  [],
  [],
  [],
  [],
  [],
  [],
  [],
  [],
  [],
  [],
  [],
  [],
  [],
  bif z.1 then [some 113, some 114, some 115, some 116, some 125, some 126, some 127, none, some 128, none, none, some 129, some 130, some 131, some 138, some 139, some 140, none, some 147, some 148, none, none, none, none, none, none, none, none, some 149, some 150, none, some 151, none, some 152, some 153, some 154, none, some 155, some 156, none, some 157, none] else [],
  [],
  [],
  [],
  bif z.1 then [some 117, some 118, some 119, some 120, some 121, some 122, some 123, some 124] else [],
  [],
  [],
  [],
  [],
  [],
  [],
  [],
  [],
  [],
  [],
  [],
  [],
  [],
  [],
  bif z.1 then [some 132, some 133, some 134, some 135, some 136, some 137] else [],
  [],
  [],
  [],
  [],
  [],
  [],
  [],
  [],
  bif z.1 then [some 141, some 142, some 143, some 144, some 145, some 146] else [],
  [],
  [],
  [],
  [],
  [],
  [],
  [],
  [],
  [],
  [],
  [],
  [],
  [],
  [],
  [],
  [],
  [],
  bif z.2.1 then [some 159, some 160, some 161, some 162, some 171, some 172, some 173, none, some 174, none, none, some 175, some 176, some 177, some 184, some 185, some 186, none, some 193, some 194, none, none, none, none, none, none, none, none, some 195, some 196, none, some 197, none, some 198, some 199, some 200, none, some 201, some 202, none, some 203, none] else [],
  [],
  [],
  [],
  bif z.2.1 then [some 163, some 164, some 165, some 166, some 167, some 168, some 169, some 170] else [],
  [],
  [],
  [],
  [],
  [],
  [],
  [],
  [],
  [],
  [],
  [],
  [],
  [],
  [],
  bif z.2.1 then [some 178, some 179, some 180, some 181, some 182, some 183] else [],
  [],
  [],
  [],
  [],
  [],
  [],
  [],
  [],
  bif z.2.1 then [some 187, some 188, some 189, some 190, some 191, some 192] else [],
  [],
  [],
  [],
  [],
  [],
  [],
  [],
  [],
  [],
  [],
  [],
  [],
  [],
  [],
  [],
  [],
  []]
/-- a state behind the making of both objects: whether the image and the trial stand, the script's length -/
def xS (I : xI) (L : xL) (z : Bool × Bool × Nat) : xH := (I, L, xR0 z, (112, bif z.1 then 158 else 112, bif z.2.1 then 204 else 158), z.2.2)
