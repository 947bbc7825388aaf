section
/-! THE ABSTRACT MACHINE. Its addresses are pairs (where it was made, the how-manieth there); its values ints, longs, references or null; its cells objects (class number, fields), arrays (type number, length, contents), and things that it knows nothing of (a number). A heap: its cells, how many were made where, how many cells and slots in all. -/
abbrev ai_A : Type := Nat × Nat
abbrev ai_V : Type := Int32 ⊕ (Int64 ⊕ Option ai_A)
abbrev ai_D : Type := (Nat → Int32) ⊕ ((Nat → Int64) ⊕ (Nat → Option ai_A))
abbrev ai_C : Type := (Nat × List ai_V) ⊕ ((Nat × Nat × ai_D) ⊕ Nat)
abbrev ai_H : Type := (ai_A → Option ai_C) × (Nat → Nat) × Nat × Nat
abbrev ai_L : Type := List (Option ai_V)
/-- what comes of a method: an answer, or the number of a thrown class -/
abbrev ai_O : Type := Option ai_V ⊕ Nat
/-- a row of code: which kind of step, the instruction, what its links lead to -/
abbrev ai_I : Type := Nat × Instr × List Nat
def ai_upd (f : ai_A → Option ai_C) (a : ai_A) (x : ai_C) : ai_A → Option ai_C := fun b => if b = a then some x else f b
def ai_put (h : ai_H) (a : ai_A) (x : ai_C) : ai_H := (ai_upd h.1 a x, h.2)
def ai_new (h : ai_H) (s : Nat) (x : ai_C) (n : Nat) : ai_H :=
  (ai_upd h.1 (s, h.2.1 s) x, (fun j => if j = s then h.2.1 s + 1 else h.2.1 j), h.2.2.1 + 1, h.2.2.2 + n)
def ai_two : ai_V → Bool
  | .inr (.inl _) => true
  | _ => false
/-- a long stands just ahead of this place -/
def ai_pl (ls : ai_L) : Nat → Bool
  | 0 => false
  | j + 1 => match ls[j]? with
    | some (some v) => ai_two v
    | _ => false
def ai_st1 (ls : ai_L) (i : Nat) (v : ai_V) : Option ai_L := if i < ls.length ∧ ai_pl ls i = false then some (ls.set i (some v)) else none
def ai_st2 (ls : ai_L) (i : Nat) (v : ai_V) : Option ai_L := if i + 1 < ls.length ∧ ai_pl ls i = false then some ((ls.set i (some v)).set (i + 1) none) else none
def ai_ii (f : Int32 → Int32 → Int32) : List ai_V → Option (List ai_V)
  | .inl y :: .inl x :: r => some (.inl (f x y) :: r)
  | _ => none
def ai_ll (f : Int64 → Int64 → Int64) : List ai_V → Option (List ai_V)
  | .inr (.inl y) :: .inr (.inl x) :: r => some (.inr (.inl (f x y)) :: r)
  | _ => none
def ai_li (f : Int64 → Int32 → Int64) : List ai_V → Option (List ai_V)
  | .inl y :: .inr (.inl x) :: r => some (.inr (.inl (f x y)) :: r)
  | _ => none
/-- how long an instruction is (switches aside) -/
def ai_len : Instr → Nat
  | .bipush _ => 2
  | .sipush _ => 3
  | .ldc _ => 2
  | .ldc2_w _ => 3
  | .iload _ => 2
  | .lload _ => 2
  | .aload _ => 2
  | .istore _ => 2
  | .lstore _ => 2
  | .astore _ => 2
  | .iinc _ _ => 3
  | .getfield _ => 3
  | .putfield _ => 3
  | .getstatic _ => 3
  | .newarray _ => 2
  | .anewarray _ => 3
  | .new _ => 3
  | .checkcast _ => 3
  | .goto _ => 3
  | .ifCond _ _ => 3
  | .if_icmp _ _ => 3
  | .if_acmp _ _ => 3
  | .ifnull _ => 3
  | .ifnonnull _ => 3
  | .invokevirtual _ => 3
  | .invokespecial _ => 3
  | .invokestatic _ => 3
  | _ => 1
/-- KIND 0: what works on the stack alone -/
def ai_pure (ins : Instr) (st : List ai_V) : Option (List ai_V) := match ins with
  | .iconst n => some (.inl (Int32.ofInt n) :: st)
  | .bipush n => some (.inl (Int8.ofInt n).toInt32 :: st)
  | .sipush n => some (.inl (Int16.ofInt n).toInt32 :: st)
  | .lconst n => some (.inr (.inl (Int64.ofNat (n : Nat))) :: st)
  | .aconst_null => some (.inr (.inr none) :: st)
  | .dup => match st with
    | v :: r => if ai_two v then none else some (v :: v :: r)
    | _ => none
  | .dup_x1 => match st with
    | v :: w :: r => if ai_two v || ai_two w then none else some (v :: w :: v :: r)
    | _ => none
  | .dup_x2 => match st with
    | v :: w :: u :: r => if ai_two v || ai_two w || ai_two u then none else some (v :: w :: u :: v :: r)
    | _ => none
  | .dup2 => match st with
    | v :: w :: r => if ai_two v || ai_two w then none else some (v :: w :: v :: w :: r)
    | _ => none
  | .pop => match st with
    | v :: r => if ai_two v then none else some r
    | _ => none
  | .iadd => ai_ii (fun x y => x + y) st
  | .isub => ai_ii (fun x y => x - y) st
  | .imul => ai_ii (fun x y => x * y) st
  | .iand => ai_ii (fun x y => x &&& y) st
  | .ior => ai_ii (fun x y => x ||| y) st
  | .ixor => ai_ii (fun x y => x ^^^ y) st
  | .ishl => ai_ii (fun x y => x <<< (y &&& 31)) st
  | .ishr => ai_ii (fun x y => x >>> (y &&& 31)) st
  | .iushr => ai_ii (fun x y => (x.toUInt32 >>> (y.toUInt32 &&& Int32.toUInt32 31)).toInt32) st
  | .idiv => match st with
    | .inl y :: .inl x :: r => if y = 0 then none else some (.inl (x / y) :: r)
    | _ => none
  | .irem => match st with
    | .inl y :: .inl x :: r => if y = 0 then none else some (.inl (x - x / y * y) :: r)
    | _ => none
  | .ineg => match st with
    | .inl x :: r => some (.inl (-x) :: r)
    | _ => none
  | .ladd => ai_ll (fun x y => x + y) st
  | .lsub => ai_ll (fun x y => x - y) st
  | .land => ai_ll (fun x y => x &&& y) st
  | .lor => ai_ll (fun x y => x ||| y) st
  | .lxor => ai_ll (fun x y => x ^^^ y) st
  | .lshl => ai_li (fun x y => x <<< (y.toInt64 &&& 63)) st
  | .lushr => ai_li (fun x y => (x.toUInt64 >>> (y.toInt64.toUInt64 &&& Int64.toUInt64 63)).toInt64) st
  | .i2l => match st with
    | .inl x :: r => some (.inr (.inl x.toInt64) :: r)
    | _ => none
  | .l2i => match st with
    | .inr (.inl x) :: r => some (.inl x.toInt32 :: r)
    | _ => none
  | .i2c => match st with
    | .inl x :: r => some (.inl (x.toUInt32 % 65536).toInt32 :: r)
    | _ => none
  | .lcmp => match st with
    | .inr (.inl y) :: .inr (.inl x) :: r => some (.inl (lg_cmp x y) :: r)
    | _ => none
  | _ => none
def ai_cmp (q : ClassFile.Cond) (x y : Int32) : Bool := match q with
  | .eq => decide (x = y)
  | .ne => decide (¬ x = y)
  | .lt => decide (x < y)
  | .ge => decide (y ≤ x)
  | .gt => decide (y < x)
  | .le => decide (x ≤ y)
def ai_lk (x : Int) (d : Nat) : List (Int × Int) → List Nat → Nat
  | (k, _) :: ps, t :: ts => if x = k then t else ai_lk x d ps ts
  | _, _ => d
/-- KIND 1: jumps; their targets stand among the links -/
def ai_jmp (ins : Instr) (pc : Nat) (ks : List Nat) (st : List ai_V) : Option (Nat × List ai_V) := match ins with
  | .goto _ => some (ks.getD 0 0, st)
  | .ifCond q _ => match st with
    | .inl x :: r => some (if ai_cmp q x 0 then ks.getD 0 0 else pc + 3, r)
    | _ => none
  | .if_icmp q _ => match st with
    | .inl y :: .inl x :: r => some (if ai_cmp q x y then ks.getD 0 0 else pc + 3, r)
    | _ => none
  | .ifnull _ => match st with
    | .inr (.inr none) :: r => some (ks.getD 0 0, r)
    | .inr (.inr (some _)) :: r => some (pc + 3, r)
    | _ => none
  | .ifnonnull _ => match st with
    | .inr (.inr none) :: r => some (pc + 3, r)
    | .inr (.inr (some _)) :: r => some (ks.getD 0 0, r)
    | _ => none
  | .tableswitch _ lo hi _ => match st with
    | .inl x :: r => some (if x.toInt < lo ∨ hi < x.toInt then ks.getD 0 0 else ks.getD (1 + (x.toInt - lo).toNat) 0, r)
    | _ => none
  | .lookupswitch _ ps => match st with
    | .inl x :: r => some (ai_lk x.toInt (ks.getD 0 0) ps.toList (ks.drop 1), r)
    | _ => none
  | _ => none
/-- what a jump's row must keep -/
def ai_jok (ins : Instr) (pc : Nat) (ks : List Nat) : Prop := match ins with
  | .goto off => (pc : Int) + off = (ks.getD 0 0 : Nat)
  | .ifCond _ off => (pc : Int) + off = (ks.getD 0 0 : Nat)
  | .if_icmp _ off => (pc : Int) + off = (ks.getD 0 0 : Nat)
  | .ifnull off => (pc : Int) + off = (ks.getD 0 0 : Nat)
  | .ifnonnull off => (pc : Int) + off = (ks.getD 0 0 : Nat)
  | .tableswitch d lo hi offs => (pc : Int) + d = (ks.getD 0 0 : Nat) ∧ ∀ j, j < (hi - lo + 1).toNat → ∃ off, offs[j]? = some off ∧ (pc : Int) + off = (ks.getD (1 + j) 0 : Nat)
  | .lookupswitch d ps => (ps.toList.zip (ps.toList.drop 1)).all (fun (a, next) => a.1 < next.1) = true ∧ (pc : Int) + d = (ks.getD 0 0 : Nat) ∧ ks.length = ps.toList.length + 1 ∧ ∀ j, j < ps.toList.length → (pc : Int) + (ps.toList.getD j (0, 0)).2 = (ks.getD (1 + j) 0 : Nat)
  | _ => True
/-- KIND 2: locals -/
def ai_loc (ins : Instr) (ls : ai_L) (st : List ai_V) : Option (ai_L × List ai_V) := match ins with
  | .iload i => match ls[i]? with
    | some (some (.inl x)) => some (ls, .inl x :: st)
    | _ => none
  | .iload_n k => match ls[(k : Nat)]? with
    | some (some (.inl x)) => some (ls, .inl x :: st)
    | _ => none
  | .lload i => match ls[i]? with
    | some (some (.inr (.inl x))) => some (ls, .inr (.inl x) :: st)
    | _ => none
  | .lload_n k => match ls[(k : Nat)]? with
    | some (some (.inr (.inl x))) => some (ls, .inr (.inl x) :: st)
    | _ => none
  | .aload i => match ls[i]? with
    | some (some (.inr (.inr x))) => some (ls, .inr (.inr x) :: st)
    | _ => none
  | .aload_n k => match ls[(k : Nat)]? with
    | some (some (.inr (.inr x))) => some (ls, .inr (.inr x) :: st)
    | _ => none
  | .istore i => match st with
    | .inl x :: r => (ai_st1 ls i (.inl x)).map (fun q => (q, r))
    | _ => none
  | .istore_n k => match st with
    | .inl x :: r => (ai_st1 ls k (.inl x)).map (fun q => (q, r))
    | _ => none
  | .lstore i => match st with
    | .inr (.inl x) :: r => (ai_st2 ls i (.inr (.inl x))).map (fun q => (q, r))
    | _ => none
  | .lstore_n k => match st with
    | .inr (.inl x) :: r => (ai_st2 ls k (.inr (.inl x))).map (fun q => (q, r))
    | _ => none
  | .astore i => match st with
    | .inr (.inr x) :: r => (ai_st1 ls i (.inr (.inr x))).map (fun q => (q, r))
    | _ => none
  | .astore_n k => match st with
    | .inr (.inr x) :: r => (ai_st1 ls k (.inr (.inr x))).map (fun q => (q, r))
    | _ => none
  | .iinc i n => match ls[i]? with
    | some (some (.inl x)) => (ai_st1 ls i (.inl (x + Int32.ofInt n))).map (fun q => (q, st))
    | _ => none
  | _ => none
/-- a value that a field or an answer of this type takes as it is -/
def ai_fit (ty : FieldType) (v : ai_V) : Bool := match ty, v with
  | .int, .inl _ => true
  | .boolean, .inl x => decide (x = 0 ∨ x = 1)
  | .char, .inl x => decide (0 ≤ x ∧ x ≤ 65535)
  | .long, .inr (.inl _) => true
  | .object _, .inr (.inr _) => true
  | .array _, .inr (.inr _) => true
  | _, _ => false
def ai_obj : FieldType → Bool
  | .object _ => true
  | _ => false
/-- KIND 3: the heap. dfl: a class's fields at first; tyA: the arrays' types; tyF: the fields' types; asg: which objects an array of references takes; L, xs: the law's script, a thing of number 0. -/
def ai_heap (dfl : Nat → List ai_V) (tyA : Nat → FieldType) (tyF : Nat → Nat → FieldType) (asg : Nat → Nat → Bool) (L : Nat) (xs : Nat → Int32) (ins : Instr) (ks : List Nat) (st : List ai_V) (h : ai_H) : Option (List ai_V × ai_H) := match ins with
  | .ldc _ => some (.inl (Int32.ofNat (ks.getD 0 0)) :: st, h)
  | .ldc2_w _ => some (.inr (.inl (Int64.ofNat (ks.getD 0 0))) :: st, h)
  | .getfield _ => match st with
    | .inr (.inr (some a)) :: r => match h.1 a with
      | some (.inl (cj, fs)) => if cj = ks.getD 0 0 then (fs[ks.getD 1 0]?).map (fun v => (v :: r, h)) else none
      | _ => none
    | _ => none
  | .putfield _ => match st with
    | v :: .inr (.inr (some a)) :: r => match h.1 a with
      | some (.inl (cj, fs)) => if cj = ks.getD 0 0 ∧ ks.getD 1 0 < fs.length ∧ ai_fit (tyF cj (ks.getD 1 0)) v = true then some (r, ai_put h a (.inl (cj, fs.set (ks.getD 1 0) v))) else none
      | _ => none
    | _ => none
  | .iaload => match st with
    | .inl i :: .inr (.inr (some a)) :: r => match h.1 a with
      | some (.inr (.inl (t, n, .inl f))) => if tyA t = .int ∧ ¬ (i < 0 ∨ n ≤ i.toNatClampNeg) then some (.inl (f i.toNatClampNeg) :: r, h) else none
      | some (.inr (.inr 0)) => if ¬ (i < 0 ∨ L ≤ i.toNatClampNeg) then some (.inl (xs i.toNatClampNeg) :: r, h) else none
      | _ => none
    | _ => none
  | .caload => match st with
    | .inl i :: .inr (.inr (some a)) :: r => match h.1 a with
      | some (.inr (.inl (t, n, .inl f))) => if tyA t = .char ∧ ¬ (i < 0 ∨ n ≤ i.toNatClampNeg) then some (.inl (f i.toNatClampNeg) :: r, h) else none
      | _ => none
    | _ => none
  | .baload => match st with
    | .inl i :: .inr (.inr (some a)) :: r => match h.1 a with
      | some (.inr (.inl (t, n, .inl f))) => if tyA t = .boolean ∧ ¬ (i < 0 ∨ n ≤ i.toNatClampNeg) then some (.inl (f i.toNatClampNeg) :: r, h) else none
      | _ => none
    | _ => none
  | .laload => match st with
    | .inl i :: .inr (.inr (some a)) :: r => match h.1 a with
      | some (.inr (.inl (t, n, .inr (.inl f)))) => if tyA t = .long ∧ ¬ (i < 0 ∨ n ≤ i.toNatClampNeg) then some (.inr (.inl (f i.toNatClampNeg)) :: r, h) else none
      | _ => none
    | _ => none
  | .aaload => match st with
    | .inl i :: .inr (.inr (some a)) :: r => match h.1 a with
      | some (.inr (.inl (t, n, .inr (.inr f)))) => if ai_obj (tyA t) = true ∧ ¬ (i < 0 ∨ n ≤ i.toNatClampNeg) then some (.inr (.inr (f i.toNatClampNeg)) :: r, h) else none
      | _ => none
    | _ => none
  | .iastore => match st with
    | .inl x :: .inl i :: .inr (.inr (some a)) :: r => match h.1 a with
      | some (.inr (.inl (t, n, .inl f))) => if tyA t = .int ∧ ¬ (i < 0 ∨ n ≤ i.toNatClampNeg) then some (r, ai_put h a (.inr (.inl (t, n, .inl (upd f i.toNatClampNeg x))))) else none
      | _ => none
    | _ => none
  | .castore => match st with
    | .inl x :: .inl i :: .inr (.inr (some a)) :: r => match h.1 a with
      | some (.inr (.inl (t, n, .inl f))) => if tyA t = .char ∧ ¬ (i < 0 ∨ n ≤ i.toNatClampNeg) then some (r, ai_put h a (.inr (.inl (t, n, .inl (upd f i.toNatClampNeg (vp_nar .char x)))))) else none
      | _ => none
    | _ => none
  | .bastore => match st with
    | .inl x :: .inl i :: .inr (.inr (some a)) :: r => match h.1 a with
      | some (.inr (.inl (t, n, .inl f))) => if tyA t = .boolean ∧ ¬ (i < 0 ∨ n ≤ i.toNatClampNeg) then some (r, ai_put h a (.inr (.inl (t, n, .inl (upd f i.toNatClampNeg (vp_nar .boolean x)))))) else none
      | _ => none
    | _ => none
  | .lastore => match st with
    | .inr (.inl x) :: .inl i :: .inr (.inr (some a)) :: r => match h.1 a with
      | some (.inr (.inl (t, n, .inr (.inl f)))) => if tyA t = .long ∧ ¬ (i < 0 ∨ n ≤ i.toNatClampNeg) then some (r, ai_put h a (.inr (.inl (t, n, .inr (.inl (vp_updL f i.toNatClampNeg x)))))) else none
      | _ => none
    | _ => none
  | .aastore => match st with
    | .inr (.inr none) :: .inl i :: .inr (.inr (some a)) :: r => match h.1 a with
      | some (.inr (.inl (t, n, .inr (.inr f)))) => if ai_obj (tyA t) = true ∧ ¬ (i < 0 ∨ n ≤ i.toNatClampNeg) then some (r, ai_put h a (.inr (.inl (t, n, .inr (.inr (va_up f i.toNatClampNeg none)))))) else none
      | _ => none
    | .inr (.inr (some b)) :: .inl i :: .inr (.inr (some a)) :: r => match h.1 a, h.1 b with
      | some (.inr (.inl (t, n, .inr (.inr f)))), some (.inl (cj, _)) => if asg t cj = true ∧ ¬ (i < 0 ∨ n ≤ i.toNatClampNeg) then some (r, ai_put h a (.inr (.inl (t, n, .inr (.inr (va_up f i.toNatClampNeg (some b))))))) else none
      | _, _ => none
    | _ => none
  | .arraylength => match st with
    | .inr (.inr (some a)) :: r => match h.1 a with
      | some (.inr (.inl (t, n, _))) => if tyA t = .float then none else some (.inl (Int32.ofNat n) :: r, h)
      | some (.inr (.inr 0)) => some (.inl (Int32.ofNat L) :: r, h)
      | some (.inr (.inr 2)) => some (.inl 0 :: r, h)
      | _ => none
    | _ => none
  | .new _ => if (h.1 (ks.getD 1 0, h.2.1 (ks.getD 1 0))).isNone then some (.inr (.inr (some (ks.getD 1 0, h.2.1 (ks.getD 1 0)))) :: st, ai_new h (ks.getD 1 0) (.inl (ks.getD 0 0, dfl (ks.getD 0 0))) (dfl (ks.getD 0 0)).length) else none
  | .newarray _ => match st with
    | .inl n :: r => if (h.1 (ks.getD 1 0, h.2.1 (ks.getD 1 0))).isNone ∧ ¬ n < 0 ∧ n.toNatClampNeg * 8 ≤ 536870912 then some (.inr (.inr (some (ks.getD 1 0, h.2.1 (ks.getD 1 0)))) :: r, ai_new h (ks.getD 1 0) (.inr (.inl (ks.getD 0 0, n.toNatClampNeg, if tyA (ks.getD 0 0) = .long then .inr (.inl fun _ => 0) else .inl fun _ => 0))) n.toNatClampNeg) else none
    | _ => none
  | .anewarray _ => match st with
    | .inl n :: r => if (h.1 (ks.getD 1 0, h.2.1 (ks.getD 1 0))).isNone ∧ ¬ n < 0 ∧ n.toNatClampNeg * 8 ≤ 536870912 then some (.inr (.inr (some (ks.getD 1 0, h.2.1 (ks.getD 1 0)))) :: r, ai_new h (ks.getD 1 0) (.inr (.inl (ks.getD 0 0, n.toNatClampNeg, .inr (.inr fun _ => none)))) n.toNatClampNeg) else none
    | _ => none
  | .checkcast _ => match st with
    | .inr (.inr none) :: r => some (.inr (.inr none) :: r, h)
    | .inr (.inr (some a)) :: r => match h.1 a with
      | some (.inl (cj, _)) => if cj = ks.getD 0 0 then some (.inr (.inr (some a)) :: r, h) else none
      | _ => none
    | _ => none
  | _ => none
def ai_solid : ai_C → Bool
  | .inr (.inr _) => false
  | _ => true
def ai_is2 : ai_C → Bool
  | .inr (.inr 2) => true
  | _ => false
/-- are two references one? none: that isn't known -/
def ai_same (h : ai_H) (x y : Option ai_A) : Option Bool := match x, y with
  | none, none => some true
  | none, some _ => some false
  | some _, none => some false
  | some a, some b => if a = b then some true else match h.1 a, h.1 b with
    | some z, some w => if (ai_solid z = true ∧ ai_solid w = true) ∨ (ai_solid z = true ∧ ai_is2 w = true) ∨ (ai_is2 z = true ∧ ai_solid w = true) then some false else none
    | _, _ => none
def ai_wt : List ai_V → Nat
  | [] => 0
  | v :: vs => (if ai_two v = true then 2 else 1) + ai_wt vs
/-- the objects in these places are all of one kind that the array takes -/
def ai_cq (asg : Nat → Nat → Bool) (h : ai_H) (t : Nat) (f : Nat → Option ai_A) (sp n : Nat) : Prop := ∃ cj, asg t cj = true ∧ ∀ i, i < n → ∀ b, f (sp + i) = some b → ∃ fs, h.1 b = some (.inl (cj, fs))
/-- KIND 10: the library's own: 0 the empty array that lists begin with (a thing of number 2, at (0, 1)); 1, 2 the class of arrays of objects (a thing of number 3, at (0, 2)), as a constant, of an array; 3, 4 references compared; 5, 6 arraycopy -/
noncomputable def ai_ext (tyA : Nat → FieldType) (asg : Nat → Nat → Bool) (pc : Nat) (ks : List Nat) (st : List ai_V) (h : ai_H) : Option (Nat × List ai_V × ai_H) := match ks.getD 0 0 with
  | 0 => match h.1 (0, 1) with
    | some (.inr (.inr 2)) => some (pc + 3, .inr (.inr (some (0, 1))) :: st, h)
    | _ => none
  | 1 => match h.1 (0, 2) with
    | some (.inr (.inr 3)) => some (pc + 2, .inr (.inr (some (0, 2))) :: st, h)
    | _ => none
  | 2 => match st with
    | .inr (.inr (some a)) :: r => match h.1 a, h.1 (0, 2) with
      | some (.inr (.inl (t, _, .inr (.inr _)))), some (.inr (.inr 3)) => if tyA t = .object "java/lang/Object" ∧ ai_wt r ≤ 8 then some (pc + 3, .inr (.inr (some (0, 2))) :: r, h) else none
      | _, _ => none
    | _ => none
  | 3 => match st with
    | .inr (.inr y) :: .inr (.inr x) :: r => match ai_same h x y with
      | some q => some (if q = true then ks.getD 1 0 else pc + 3, r, h)
      | none => none
    | _ => none
  | 4 => match st with
    | .inr (.inr y) :: .inr (.inr x) :: r => match ai_same h x y with
      | some q => some (if q = true then pc + 3 else ks.getD 1 0, r, h)
      | none => none
    | _ => none
  | 5 => match st with
    | .inl n :: .inl dp :: .inr (.inr (some b)) :: .inl sp :: .inr (.inr (some a)) :: r => match h.1 a, h.1 b with
      | some (.inr (.inl (t0, n0, .inl f))), some (.inr (.inl (t1, n1, .inl g))) => if tyA t0 = .int ∧ tyA t1 = .int ∧ ¬ sp < 0 ∧ ¬ dp < 0 ∧ ¬ n < 0 ∧ sp.toNatClampNeg + n.toNatClampNeg ≤ n0 ∧ dp.toNatClampNeg + n.toNatClampNeg ≤ n1 ∧ ai_wt r ≤ 8 then some (pc + 3, r, ai_put h b (.inr (.inl (t1, n1, .inl (va_cpy f g sp.toNatClampNeg dp.toNatClampNeg n.toNatClampNeg))))) else none
      | _, _ => none
    | _ => none
  | 6 => match st with
    | .inl n :: .inl dp :: .inr (.inr (some b)) :: .inl sp :: .inr (.inr (some a)) :: r => match h.1 a, h.1 b with
      | some (.inr (.inl (t0, n0, .inr (.inr f)))), some (.inr (.inl (t1, n1, .inr (.inr g)))) => @ite _ (ai_obj (tyA t0) = true ∧ ¬ sp < 0 ∧ ¬ dp < 0 ∧ ¬ n < 0 ∧ sp.toNatClampNeg + n.toNatClampNeg ≤ n0 ∧ dp.toNatClampNeg + n.toNatClampNeg ≤ n1 ∧ ai_wt r ≤ 8 ∧ ai_cq asg h t1 f sp.toNatClampNeg n.toNatClampNeg) (Classical.propDecidable _) (some (pc + 3, r, ai_put h b (.inr (.inl (t1, n1, .inr (.inr (va_cpy f g sp.toNatClampNeg dp.toNatClampNeg n.toNatClampNeg))))))) none
      | _, _ => none
    | _ => none
  | _ => none
end
section
/-! What the abstract heap says of the real one: ρ gives the addresses, dA the classes of the arrays. -/
def ai_v (ρ : ai_A → Nat) : ai_V → Value
  | .inl x => .int x
  | .inr (.inl x) => .long x
  | .inr (.inr none) => .null
  | .inr (.inr (some a)) => .ref (ρ a)
def ai_e (dA : Nat → ClassId) (ρ : ai_A → Nat) : ai_C → va_E
  | .inl o => .inr (o.1, o.2.map (ai_v ρ))
  | .inr (.inl (t, n, .inl f)) => .inl (dA t, n, .inl f)
  | .inr (.inl (t, n, .inr (.inl f))) => .inl (dA t, n, .inr (.inl f))
  | .inr (.inl (t, n, .inr (.inr f))) => .inl (dA t, n, .inr (.inr (.inr (.inr fun j => (f j).map ρ))))
  | .inr (.inr _) => .inl (0, 0, .inl fun _ => 0)
/-- a value leads to what is there -/
def ai_ok (h : ai_H) (v : ai_V) : Prop := ∀ a, v = .inr (.inr (some a)) → (h.1 a).isSome = true
def ai_cok (h : ai_H) : ai_C → Prop
  | .inl o => ∀ v ∈ o.2, ai_ok h v
  | .inr (.inl (_, _, .inr (.inr f))) => ∀ j a, f j = some a → (h.1 a).isSome = true
  | _ => True
def ai_ws (dA : Nat → ClassId) (ρ : ai_A → Nat) (h : ai_H) (dom : List ai_A) : va_W := dom.map fun a => (ρ a, ai_e dA ρ ((h.1 a).getD (.inr (.inr 0))))
def ai_R (D : va_G) (cl : List vw_C) (dA : Nat → ClassId) (B : Nat → Prop) (ρ : ai_A → Nat) (h : ai_H) (H : Heap) : Prop :=
  ∃ dom : List ai_A, (∀ a, a ∈ dom ↔ ∃ x, h.1 a = some x ∧ ai_solid x = true) ∧ va_P D cl (ai_ws dA ρ h dom) H ∧ va_D B (ai_ws dA ρ h dom) ∧ ∀ a x, h.1 a = some x → ai_cok h x
/-- the locals -/
def ai_lr (ρ : ai_A → Nat) (ls : ai_L) (A : Array Slot) : Prop := ∃ lv, lv_has A ls.length lv ∧ ∀ k v, ls[k]? = some (some v) → (k, ai_v ρ v) ∈ lv
/-- the same addresses for all that is there -/
def ai_le (h : ai_H) (ρ ρ' : ai_A → Nat) : Prop := ∀ a, (h.1 a).isSome = true → ρ' a = ρ a
theorem ai_v_ext {h : ai_H} {ρ ρ' : ai_A → Nat} {v : ai_V} (hv : ai_ok h v) (e : ai_le h ρ ρ') : ai_v ρ' v = ai_v ρ v := by
  rcases v with x | x | _ | a
  · rfl
  · rfl
  · rfl
  · show Value.ref (ρ' a) = Value.ref (ρ a)
    rw [e a (hv a rfl)]
theorem ai_vs_ext {h : ai_H} {ρ ρ' : ai_A → Nat} (e : ai_le h ρ ρ') : ∀ {st : List ai_V}, (∀ v ∈ st, ai_ok h v) → st.map (ai_v ρ') = st.map (ai_v ρ) := by
  intro st hst
  exact List.map_congr_left fun v hv => ai_v_ext (hst v hv) e
theorem ai_e_ext {h : ai_H} {dA : Nat → ClassId} {ρ ρ' : ai_A → Nat} {x : ai_C} (hx : ai_cok h x) (e : ai_le h ρ ρ') : ai_e dA ρ' x = ai_e dA ρ x := by
  rcases x with o | ⟨t, n, f | f | f⟩ | k
  · show Sum.inr (o.1, o.2.map (ai_v ρ')) = Sum.inr (o.1, o.2.map (ai_v ρ))
    rw [ai_vs_ext e hx]
  · rfl
  · rfl
  · have hf : (fun j => (f j).map ρ') = fun j => (f j).map ρ := by
      funext j
      cases hj : f j with
      | none => rfl
      | some a =>
        show some (ρ' a) = some (ρ a)
        rw [e a (hx j a hj)]
    show Sum.inl (dA t, n, Sum.inr (Sum.inr (Sum.inr (Sum.inr fun j => (f j).map ρ')))) = Sum.inl (dA t, n, Sum.inr (Sum.inr (Sum.inr (Sum.inr fun j => (f j).map ρ))))
    rw [hf]
  · rfl
theorem ai_cat1 {ρ : ai_A → Nat} {v : ai_V} (h : ai_two v = false) : (ai_v ρ v).category = 1 := by
  rcases v with x | x | _ | a
  · rfl
  · cases h
  · rfl
  · rfl
theorem ai_ws_at {dA : Nat → ClassId} {ρ : ai_A → Nat} {h : ai_H} {dom : List ai_A} {k : Nat} {a : ai_A} {x : ai_C} (hk : dom[k]? = some a) (ha : h.1 a = some x) : (ai_ws dA ρ h dom)[k]? = some (ρ a, ai_e dA ρ x) := by
  simp [ai_ws, hk, ha]
/-- a cell's place among the real ones -/
theorem ai_R.idx {D : va_G} {cl : List vw_C} {dA : Nat → ClassId} {ρ : ai_A → Nat} {h : ai_H} {dom : List ai_A} {a : ai_A} {x : ai_C}
    (hd : ∀ a, a ∈ dom ↔ ∃ x, h.1 a = some x ∧ ai_solid x = true) (ha : h.1 a = some x) (hs : ai_solid x = true) : ∃ k : Nat, dom[k]? = some a ∧ (ai_ws dA ρ h dom)[k]? = some (ρ a, ai_e dA ρ x) := by
  obtain ⟨k, hk⟩ := List.getElem?_of_mem ((hd a).mpr ⟨x, ha, hs⟩)
  exact ⟨k, hk, ai_ws_at hk ha⟩
theorem ai_ws_set {dA : Nat → ClassId} {B : Nat → Prop} {ρ : ai_A → Nat} {h : ai_H} {dom : List ai_A} {k : Nat} {a : ai_A} {x : ai_C} (hD : va_D B (ai_ws dA ρ h dom)) (hk : dom[k]? = some a) :
    (ai_ws dA ρ h dom).set k (ρ a, ai_e dA ρ x) = ai_ws dA ρ (ai_put h a x) dom := by
  have hl : k < dom.length := (List.getElem?_eq_some_iff.mp hk).1
  apply List.ext_getElem?
  intro j
  by_cases hj : k = j
  · subst hj
    rw [List.getElem?_set_self (by simpa [ai_ws] using hl)]
    simp [ai_ws, hk, ai_put, ai_upd]
  · rw [List.getElem?_set_ne hj]
    cases hd : dom[j]? with
    | none => simp [ai_ws, hd]
    | some b =>
      have hb : ¬ b = a := by
        intro e
        subst e
        exact hj (hD.1 k j _ _ (show (ai_ws dA ρ h dom)[k]? = some (ρ b, ai_e dA ρ ((h.1 b).getD (.inr (.inr 0)))) by simp [ai_ws, hk]) (show (ai_ws dA ρ h dom)[j]? = some (ρ b, ai_e dA ρ ((h.1 b).getD (.inr (.inr 0)))) by simp [ai_ws, hd]) rfl)
      simp [ai_ws, hd, ai_put, ai_upd, hb]
theorem ai_put_some {h : ai_H} {a b : ai_A} {x : ai_C} (hb : (h.1 b).isSome = true) : ((ai_put h a x).1 b).isSome = true := by
  by_cases e : b = a
  · simp [ai_put, ai_upd, e]
  · simpa [ai_put, ai_upd, e] using hb
theorem ai_put_ok {h : ai_H} {a : ai_A} {x : ai_C} {v : ai_V} (hv : ai_ok h v) : ai_ok (ai_put h a x) v := fun b hb => ai_put_some (hv b hb)
theorem ai_cok_mono {h h' : ai_H} (hm : ∀ b, (h.1 b).isSome = true → (h'.1 b).isSome = true) {x : ai_C} (hx : ai_cok h x) : ai_cok h' x := by
  rcases x with o | ⟨t, n, f | f | f⟩ | k
  · exact fun v hv a ha => hm a (hx v hv a ha)
  · trivial
  · trivial
  · exact fun j a ha => hm a (hx j a ha)
  · trivial
/-- behind a store -/
theorem ai_R.put {D : va_G} {cl : List vw_C} {dA : Nat → ClassId} {B : Nat → Prop} {ρ : ai_A → Nat} {h : ai_H} {H1 : Heap} {dom : List ai_A} {k : Nat} {a : ai_A} {x x' : ai_C}
    (hd : ∀ a, a ∈ dom ↔ ∃ x, h.1 a = some x ∧ ai_solid x = true) (hc : ∀ a x, h.1 a = some x → ai_cok h x) (hD : va_D B (ai_ws dA ρ h dom)) (hk : dom[k]? = some a) (ha : h.1 a = some x) (hs : ai_solid x = true) (hs' : ai_solid x' = true) (hx' : ai_cok h x')
    (hP1 : va_P D cl ((ai_ws dA ρ h dom).set k (ρ a, ai_e dA ρ x')) H1) (hD1 : va_D B ((ai_ws dA ρ h dom).set k (ρ a, ai_e dA ρ x'))) : ai_R D cl dA B ρ (ai_put h a x') H1 := by
  rw [ai_ws_set hD hk] at hP1 hD1
  have hm : ∀ b, (h.1 b).isSome = true → ((ai_put h a x').1 b).isSome = true := fun b hb => ai_put_some hb
  refine ⟨dom, fun b => ?_, hP1, hD1, fun b y hb => ?_⟩
  · rw [hd b]
    by_cases e : b = a
    · subst e
      refine ⟨fun _ => ⟨x', by simp [ai_put, ai_upd], hs'⟩, fun _ => ⟨x, ha, hs⟩⟩
    · have : (ai_put h a x').1 b = h.1 b := by simp [ai_put, ai_upd, e]
      rw [this]
  · by_cases e : b = a
    · subst e
      have : x' = y := by simpa [ai_put, ai_upd] using hb
      rw [← this]
      exact ai_cok_mono hm hx'
    · have : h.1 b = some y := by simpa [ai_put, ai_upd, e] using hb
      exact ai_cok_mono hm (hc b y this)
/-- an address map with one more -/
def ai_at (ρ : ai_A → Nat) (a : ai_A) (q : Nat) : ai_A → Nat := fun b => if b = a then q else ρ b
theorem ai_at_le {h : ai_H} {ρ : ai_A → Nat} {a : ai_A} {q : Nat} (ha : h.1 a = none) : ai_le h ρ (ai_at ρ a q) := by
  intro b hb
  by_cases e : b = a
  · subst e
    rw [ha] at hb
    cases hb
  · simp [ai_at, e]
theorem ai_new_some {h : ai_H} {s n : Nat} {x : ai_C} {b : ai_A} (hb : (h.1 b).isSome = true) : ((ai_new h s x n).1 b).isSome = true := by
  by_cases e : b = (s, h.2.1 s)
  · simp [ai_new, ai_upd, e]
  · simpa [ai_new, ai_upd, e] using hb
/-- behind the making of a cell at q -/
theorem ai_R.new {D : va_G} {cl : List vw_C} {dA : Nat → ClassId} {B : Nat → Prop} {ρ : ai_A → Nat} {h : ai_H} {H1 : Heap} {dom : List ai_A} {s n q : Nat} {x : ai_C}
    (hd : ∀ a, a ∈ dom ↔ ∃ x, h.1 a = some x ∧ ai_solid x = true) (hc : ∀ a x, h.1 a = some x → ai_cok h x) (ha : h.1 (s, h.2.1 s) = none) (hs : ai_solid x = true) (hx : ai_cok h x)
    (hP1 : va_P D cl (ai_ws dA ρ h dom ++ [(q, ai_e dA ρ x)]) H1) (hD1 : va_D B (ai_ws dA ρ h dom ++ [(q, ai_e dA ρ x)])) : ai_R D cl dA B (ai_at ρ (s, h.2.1 s) q) (ai_new h s x n) H1 := by
  have hle := ai_at_le (ρ := ρ) (q := q) ha
  have hm : ∀ b, (h.1 b).isSome = true → ((ai_new h s x n).1 b).isSome = true := fun b hb => ai_new_some hb
  have hw : ai_ws dA (ai_at ρ (s, h.2.1 s) q) (ai_new h s x n) (dom ++ [(s, h.2.1 s)]) = ai_ws dA ρ h dom ++ [(q, ai_e dA ρ x)] := by
    unfold ai_ws
    rw [List.map_append]
    congr 1
    · refine List.map_congr_left fun b hb => ?_
      obtain ⟨y, hy, hys⟩ := (hd b).mp hb
      have hne : ¬ b = (s, h.2.1 s) := fun e => by
        subst e
        rw [ha] at hy
        cases hy
      have e1 : (ai_new h s x n).1 b = some y := by simp [ai_new, ai_upd, hne, hy]
      rw [e1, hy]
      show (ai_at ρ (s, h.2.1 s) q b, ai_e dA (ai_at ρ (s, h.2.1 s) q) y) = (ρ b, ai_e dA ρ y)
      rw [hle b (by rw [hy]; rfl), ai_e_ext (hc b y hy) hle]
    · have e1 : (ai_new h s x n).1 (s, h.2.1 s) = some x := by simp [ai_new, ai_upd]
      show [(ai_at ρ (s, h.2.1 s) q (s, h.2.1 s), ai_e dA (ai_at ρ (s, h.2.1 s) q) (((ai_new h s x n).1 (s, h.2.1 s)).getD (.inr (.inr 0))))] = [(q, ai_e dA ρ x)]
      rw [e1]
      show [(ai_at ρ (s, h.2.1 s) q (s, h.2.1 s), ai_e dA (ai_at ρ (s, h.2.1 s) q) x)] = [(q, ai_e dA ρ x)]
      rw [ai_e_ext hx hle]
      simp [ai_at]
  refine ⟨dom ++ [(s, h.2.1 s)], fun b => ?_, by rw [hw]; exact hP1, by rw [hw]; exact hD1, fun b y hb => ?_⟩
  · by_cases e : b = (s, h.2.1 s)
    · subst e
      exact ⟨fun _ => ⟨x, by simp [ai_new, ai_upd], hs⟩, fun _ => by simp⟩
    · have e1 : (ai_new h s x n).1 b = h.1 b := by simp [ai_new, ai_upd, e]
      rw [e1, ← hd b]
      simp [e]
  · by_cases e : b = (s, h.2.1 s)
    · subst e
      have : x = y := by simpa [ai_new, ai_upd] using hb
      rw [← this]
      exact ai_cok_mono hm hx
    · have : h.1 b = some y := by simpa [ai_new, ai_upd, e] using hb
      exact ai_cok_mono hm (hc b y this)
/-- a store to a local -/
theorem ai_lr.set1 {ρ : ai_A → Nat} {ls ls' : ai_L} {lv : List (Nat × Value)} {A' : Array Slot} {i : Nat} {v : ai_V} (hs : ai_st1 ls i v = some ls') (hl : ∀ k v, ls[k]? = some (some v) → (k, ai_v ρ v) ∈ lv)
    (hA : lv_has A' ls.length ((i, ai_v ρ v) :: lv.filter (fun q => !(q.1 == i) && !(q.1 + 1 == i && q.2.category == 2)))) : ai_lr ρ ls' A' := by
  unfold ai_st1 at hs
  split at hs
  · rename_i hc
    obtain ⟨h1, h2⟩ := hc
    cases hs
    refine ⟨_, by rw [List.length_set]; exact hA, fun k w hk => ?_⟩
    by_cases e : i = k
    · subst e
      rw [List.getElem?_set_self h1] at hk
      cases hk
      exact List.mem_cons_self
    · rw [List.getElem?_set_ne e] at hk
      refine List.mem_cons_of_mem _ (List.mem_filter.mpr ⟨hl k w hk, ?_⟩)
      have e1 : (k == i) = false := by simpa using fun q => e q.symm
      cases i with
      | zero => simp [e1]
      | succ j =>
        by_cases e2 : k = j
        · subst e2
          have h3 : ai_two w = false := by
            simpa [ai_pl, hk] using h2
          simp [ai_cat1 h3]
        · simp [e1, e2]
          try omega
  · cases hs
theorem ai_lr.set2 {ρ : ai_A → Nat} {ls ls' : ai_L} {lv : List (Nat × Value)} {A' : Array Slot} {i : Nat} {v : ai_V} (hs : ai_st2 ls i v = some ls') (hl : ∀ k v, ls[k]? = some (some v) → (k, ai_v ρ v) ∈ lv)
    (hA : lv_has A' ls.length ((i, ai_v ρ v) :: lv.filter (fun q => !(q.1 == i) && (!(q.1 == i + 1) && !(q.1 + 1 == i && q.2.category == 2))))) : ai_lr ρ ls' A' := by
  unfold ai_st2 at hs
  split at hs
  · rename_i hc
    obtain ⟨h1, h2⟩ := hc
    cases hs
    refine ⟨_, by rw [List.length_set, List.length_set]; exact hA, fun k w hk => ?_⟩
    by_cases e9 : i + 1 = k
    · subst e9
      rw [List.getElem?_set_self (by rw [List.length_set]; exact h1)] at hk
      cases hk
    · rw [List.getElem?_set_ne e9] at hk
      by_cases e : i = k
      · subst e
        rw [List.getElem?_set_self (by omega)] at hk
        cases hk
        exact List.mem_cons_self
      · rw [List.getElem?_set_ne e] at hk
        refine List.mem_cons_of_mem _ (List.mem_filter.mpr ⟨hl k w hk, ?_⟩)
        have e1 : (k == i) = false := by simpa using fun q => e q.symm
        have e3 : (k == i + 1) = false := by simpa using fun q => e9 q.symm
        cases i with
        | zero => simp [e1, e3]
        | succ j =>
          by_cases e2 : k = j
          · subst e2
            have h3 : ai_two w = false := by
              simpa [ai_pl, hk] using h2
            simp [ai_cat1 h3]
            try omega
          · simp [e1, e2, e3]
            try omega
  · cases hs
end
section
/-! Steps on stack, locals and counter alone. -/
theorem ai_ii_spec {f : Int32 → Int32 → Int32} {st st' : List ai_V} (h : ai_ii f st = some st') : ∃ x y r, st = .inl y :: .inl x :: r ∧ st' = .inl (f x y) :: r := by
  unfold ai_ii at h
  split at h
  · cases h
    exact ⟨_, _, _, rfl, rfl⟩
  · cases h
theorem ai_ll_spec {f : Int64 → Int64 → Int64} {st st' : List ai_V} (h : ai_ll f st = some st') : ∃ x y r, st = .inr (.inl y) :: .inr (.inl x) :: r ∧ st' = .inr (.inl (f x y)) :: r := by
  unfold ai_ll at h
  split at h
  · cases h
    exact ⟨_, _, _, rfl, rfl⟩
  · cases h
theorem ai_li_spec {f : Int64 → Int32 → Int64} {st st' : List ai_V} (h : ai_li f st = some st') : ∃ x y r, st = .inl y :: .inr (.inl x) :: r ∧ st' = .inr (.inl (f x y)) :: r := by
  unfold ai_li at h
  split at h
  · cases h
    exact ⟨_, _, _, rfl, rfl⟩
  · cases h
section AI1
variable {p : Program} {l : Launch} {e : Env} {R : Room} {s : State} {m : MethodId} {args : Array Value} {below : List Frame} {meth : Method} {c : Code} {H : Heap} {locs : List Loc} {cells slots : Nat} {Q : State → Prop}
variable {cc : ByteArray} {pc : Nat} {lsA : Array Slot} {ρ : ai_A → Nat}
set_option maxHeartbeats 4000000 in
theorem ai_pure_W (hx : p.tables.exec = Jvm.exec) (hb : c.code = cc) {ins : Instr} {st st' : List ai_V} (hp : ai_pure ins st = some st') (hd : decode cc pc = .ok (ins, ai_len ins))
    (k : W p l e R s m args below meth c H locs cells slots Q (F0 m (pc + ai_len ins) lsA (st'.map (ai_v ρ)))) : W p l e R s m args below meth c H locs cells slots Q (F0 m pc lsA (st.map (ai_v ρ))) := by
  cases ins
  case iconst n =>
    cases hp
    exact lv_iconst hx hb hd rfl k
  case bipush n =>
    cases hp
    exact lv_bipush hx hb hd rfl k
  case sipush n =>
    cases hp
    exact lv_sipush hx hb hd rfl k
  case lconst n =>
    cases hp
    exact lv_lconst hx hb hd rfl k
  case aconst_null =>
    cases hp
    exact lv_null hx hb hd k
  case dup =>
    simp only [ai_pure] at hp
    split at hp
    · split at hp
      · cases hp
      · rename_i h2
        cases hp
        exact lv_dup hx hb hd (ai_cat1 (by simpa using h2)) k
    · cases hp
  case dup_x1 =>
    simp only [ai_pure] at hp
    split at hp
    · split at hp
      · cases hp
      · rename_i h2
        cases hp
        simp only [Bool.or_eq_true, not_or, Bool.not_eq_true] at h2
        exact lv_dup_x1 hx hb hd (ai_cat1 h2.1) (ai_cat1 h2.2) k
    · cases hp
  case dup_x2 =>
    simp only [ai_pure] at hp
    split at hp
    · split at hp
      · cases hp
      · rename_i h2
        cases hp
        simp only [Bool.or_eq_true, not_or, Bool.not_eq_true] at h2
        exact lv_dup_x2 hx hb hd (ai_cat1 h2.1.1) (ai_cat1 h2.1.2) (ai_cat1 h2.2) k
    · cases hp
  case dup2 =>
    simp only [ai_pure] at hp
    split at hp
    · split at hp
      · cases hp
      · rename_i h2
        cases hp
        simp only [Bool.or_eq_true, not_or, Bool.not_eq_true] at h2
        exact lv_dup2_11 hx hb hd (ai_cat1 h2.1) (ai_cat1 h2.2) k
    · cases hp
  case pop =>
    simp only [ai_pure] at hp
    split at hp
    · split at hp
      · cases hp
      · rename_i h2
        cases hp
        exact lv_pop hx hb hd (ai_cat1 (by simpa using h2)) k
    · cases hp
  case iadd =>
    obtain ⟨x, y, r, rfl, rfl⟩ := ai_ii_spec hp
    exact lv_iadd hx hb hd k
  case isub =>
    obtain ⟨x, y, r, rfl, rfl⟩ := ai_ii_spec hp
    exact lv_isub hx hb hd k
  case imul =>
    obtain ⟨x, y, r, rfl, rfl⟩ := ai_ii_spec hp
    exact lv_imul hx hb hd k
  case iand =>
    obtain ⟨x, y, r, rfl, rfl⟩ := ai_ii_spec hp
    exact lv_iand hx hb hd k
  case ior =>
    obtain ⟨x, y, r, rfl, rfl⟩ := ai_ii_spec hp
    exact lv_ior hx hb hd k
  case ixor =>
    obtain ⟨x, y, r, rfl, rfl⟩ := ai_ii_spec hp
    exact lv_ixor hx hb hd k
  case ishl =>
    obtain ⟨x, y, r, rfl, rfl⟩ := ai_ii_spec hp
    exact lv_ishl hx hb hd k
  case ishr =>
    obtain ⟨x, y, r, rfl, rfl⟩ := ai_ii_spec hp
    exact lv_ishr hx hb hd k
  case iushr =>
    obtain ⟨x, y, r, rfl, rfl⟩ := ai_ii_spec hp
    exact lv_iushr hx hb hd rfl k
  case idiv =>
    simp only [ai_pure] at hp
    split at hp
    · split at hp
      · cases hp
      · rename_i h2
        cases hp
        exact lv_idiv hx hb hd h2 k
    · cases hp
  case irem =>
    simp only [ai_pure] at hp
    split at hp
    · split at hp
      · cases hp
      · rename_i h2
        cases hp
        exact lv_irem hx hb hd h2 k
    · cases hp
  case ineg =>
    simp only [ai_pure] at hp
    split at hp
    · cases hp
      exact lv_ineg hx hb hd k
    · cases hp
  case ladd =>
    obtain ⟨x, y, r, rfl, rfl⟩ := ai_ll_spec hp
    exact lv_ladd hx hb hd k
  case lsub =>
    obtain ⟨x, y, r, rfl, rfl⟩ := ai_ll_spec hp
    exact lv_lsub hx hb hd k
  case land =>
    obtain ⟨x, y, r, rfl, rfl⟩ := ai_ll_spec hp
    exact lv_land hx hb hd k
  case lor =>
    obtain ⟨x, y, r, rfl, rfl⟩ := ai_ll_spec hp
    exact lv_lor hx hb hd k
  case lxor =>
    obtain ⟨x, y, r, rfl, rfl⟩ := ai_ll_spec hp
    exact lv_lxor hx hb hd k
  case lshl =>
    obtain ⟨x, y, r, rfl, rfl⟩ := ai_li_spec hp
    exact lv_lshl hx hb hd rfl k
  case lushr =>
    obtain ⟨x, y, r, rfl, rfl⟩ := ai_li_spec hp
    exact lv_lushr hx hb hd rfl k
  case i2l =>
    simp only [ai_pure] at hp
    split at hp
    · cases hp
      exact lv_i2l hx hb hd rfl k
    · cases hp
  case l2i =>
    simp only [ai_pure] at hp
    split at hp
    · cases hp
      exact lv_l2i hx hb hd rfl k
    · cases hp
  case i2c =>
    simp only [ai_pure] at hp
    split at hp
    · cases hp
      exact lv_i2c hx hb hd rfl k
    · cases hp
  case lcmp =>
    simp only [ai_pure] at hp
    split at hp
    · cases hp
      exact W.lcmp hx hb hd k
    · cases hp
  all_goals (simp [ai_pure] at hp)
/-- the length of a row's instruction: any for switches -/
def ai_lok (ins : Instr) (len : Nat) : Bool := match ins with
  | .tableswitch _ _ _ _ => true
  | .lookupswitch _ _ => true
  | _ => len == ai_len ins
theorem ai_lk_spec {pc : Nat} {x : Int} {d : Int} {dt : Nat} (hd : (pc : Int) + d = (dt : Nat)) : ∀ (ps : List (Int × Int)) (ts : List Nat), ts.length = ps.length → (∀ j, j < ps.length → (pc : Int) + (ps.getD j (0, 0)).2 = (ts.getD j 0 : Nat)) → (pc : Int) + Op.lookupswitch.offset ps d x = (ai_lk x dt ps ts : Nat) := by
  intro ps
  induction ps with
  | nil =>
    intro ts _ _
    cases ts <;> simpa [ai_lk, Op.lookupswitch.offset] using hd
  | cons q ps ih =>
    intro ts hl ht
    obtain ⟨k, o⟩ := q
    cases ts with
    | nil => simp at hl
    | cons t ts =>
      rw [Op.lookupswitch.offset_cons]
      have h0 := ht 0 (by simp)
      by_cases hk : x = k
      · rw [if_pos hk.symm]
        simpa [ai_lk, hk] using h0
      · rw [if_neg (fun q => hk q.symm)]
        have := ih ts (by simpa using hl) (fun j hj => by simpa using ht (j + 1) (by simpa using hj))
        simpa [ai_lk, hk] using this
set_option maxHeartbeats 4000000 in
theorem ai_jmp_W (hx : p.tables.exec = Jvm.exec) (hb : c.code = cc) {ins : Instr} {len pc' : Nat} {ks : List Nat} {st st' : List ai_V} (hp : ai_jmp ins pc ks st = some (pc', st')) (hok : ai_jok ins pc ks) (hd : decode cc pc = .ok (ins, len)) (hlen : ai_lok ins len = true)
    (k : W p l e R s m args below meth c H locs cells slots Q (F0 m pc' lsA (st'.map (ai_v ρ)))) : W p l e R s m args below meth c H locs cells slots Q (F0 m pc lsA (st.map (ai_v ρ))) := by
  cases ins
  case goto off =>
    have hl : len = 3 := by simpa [ai_lok, ai_len] using hlen
    subst hl
    cases hp
    exact lv_goto hx hb hd hok k
  case ifCond q off =>
    have hl : len = 3 := by simpa [ai_lok, ai_len] using hlen
    subst hl
    simp only [ai_jmp] at hp
    split at hp
    · cases hp
      cases q
      · refine lv_if_eq hx hb hd hok (fun z => ?_) (fun z => ?_)
        · rw [if_pos (by simp [ai_cmp, z])] at k; exact k
        · rw [if_neg (by simp [ai_cmp, z])] at k; exact k
      · refine lv_if_ne hx hb hd hok (fun z => ?_) (fun z => ?_)
        · rw [if_pos (by simp [ai_cmp, z])] at k; exact k
        · rw [if_neg (by simp [ai_cmp, z])] at k; exact k
      · refine lv_if_lt hx hb hd hok (fun z => ?_) (fun z => ?_)
        · rw [if_pos (by simpa [ai_cmp] using z)] at k; exact k
        · rw [if_neg (by simpa [ai_cmp] using z)] at k; exact k
      · refine lv_if_ge hx hb hd hok (fun z => ?_) (fun z => ?_)
        · rw [if_pos (by simpa [ai_cmp] using z)] at k; exact k
        · rw [if_neg (by simpa [ai_cmp] using z)] at k; exact k
      · refine lv_if_gt hx hb hd hok (fun z => ?_) (fun z => ?_)
        · rw [if_pos (by simpa [ai_cmp] using z)] at k; exact k
        · rw [if_neg (by simpa [ai_cmp] using z)] at k; exact k
      · refine lv_if_le hx hb hd hok (fun z => ?_) (fun z => ?_)
        · rw [if_pos (by simpa [ai_cmp] using z)] at k; exact k
        · rw [if_neg (by simpa [ai_cmp] using z)] at k; exact k
    · cases hp
  case if_icmp q off =>
    have hl : len = 3 := by simpa [ai_lok, ai_len] using hlen
    subst hl
    simp only [ai_jmp] at hp
    split at hp
    · cases hp
      cases q
      · refine lv_icmp_eq hx hb hd hok (fun z => ?_) (fun z => ?_)
        · rw [if_pos (by simp [ai_cmp, z])] at k; exact k
        · rw [if_neg (by simp [ai_cmp, z])] at k; exact k
      · refine lv_icmp_ne hx hb hd hok (fun z => ?_) (fun z => ?_)
        · rw [if_pos (by simp [ai_cmp, z])] at k; exact k
        · rw [if_neg (by simp [ai_cmp, z])] at k; exact k
      · refine lv_icmp_lt hx hb hd hok (fun z => ?_) (fun z => ?_)
        · rw [if_pos (by simpa [ai_cmp] using z)] at k; exact k
        · rw [if_neg (by simpa [ai_cmp] using z)] at k; exact k
      · refine lv_icmp_ge hx hb hd hok (fun z => ?_) (fun z => ?_)
        · rw [if_pos (by simpa [ai_cmp] using z)] at k; exact k
        · rw [if_neg (by simpa [ai_cmp] using z)] at k; exact k
      · refine lv_icmp_gt hx hb hd hok (fun z => ?_) (fun z => ?_)
        · rw [if_pos (by simpa [ai_cmp] using z)] at k; exact k
        · rw [if_neg (by simpa [ai_cmp] using z)] at k; exact k
      · refine lv_icmp_le hx hb hd hok (fun z => ?_) (fun z => ?_)
        · rw [if_pos (by simpa [ai_cmp] using z)] at k; exact k
        · rw [if_neg (by simpa [ai_cmp] using z)] at k; exact k
    · cases hp
  case ifnull off =>
    have hl : len = 3 := by simpa [ai_lok, ai_len] using hlen
    subst hl
    simp only [ai_jmp] at hp
    split at hp
    · cases hp
      exact lv_ifnullN hx hb hd hok k
    · cases hp
      exact lv_ifnull hx hb hd k
    · cases hp
  case ifnonnull off =>
    have hl : len = 3 := by simpa [ai_lok, ai_len] using hlen
    subst hl
    simp only [ai_jmp] at hp
    split at hp
    · cases hp
      exact lv_ifnonnullN hx hb hd k
    · cases hp
      exact lv_ifnonnull hx hb hd hok k
    · cases hp
  case tableswitch d lo hi offs =>
    simp only [ai_jmp] at hp
    split at hp
    · rename_i x r
      cases hp
      obtain ⟨h1, h2⟩ := hok
      by_cases hc : x.toInt < lo ∨ hi < x.toInt
      · rw [if_pos hc] at k
        exact lv_tableOut hx hb hd hc h1 k
      · rw [if_neg hc] at k
        obtain ⟨off, ho, ht⟩ := h2 (x.toInt - lo).toNat (by omega)
        exact lv_tableIn hx hb hd (fun z => hc (Or.inl z)) (fun z => hc (Or.inr z)) ho ht k
    · cases hp
  case lookupswitch d ps =>
    simp only [ai_jmp] at hp
    split at hp
    · rename_i x r
      cases hp
      obtain ⟨h0, h1, h2, h3⟩ := hok
      refine lv_lookup hx hb hd h0 rfl (ai_lk_spec h1 _ _ (by rw [List.length_drop, h2]; omega) (fun j hj => ?_)) k
      have := h3 j hj
      rw [this]
      congr 1
      simp [List.getD_eq_getElem?_getD, List.getElem?_drop, Nat.add_comm]
    · cases hp
  all_goals (simp [ai_jmp] at hp)
theorem ai_lr.get {ls : ai_L} {i : Nat} {v : ai_V} (h : ai_lr ρ ls lsA) (hi : ls[i]? = some (some v)) : lsA[i]? = some (.val (ai_v ρ v)) := by
  obtain ⟨lv, h1, h2⟩ := h
  exact h1.2.2 _ (h2 i v hi)
set_option maxHeartbeats 4000000 in
theorem ai_loc_W (hx : p.tables.exec = Jvm.exec) (hb : c.code = cc) {ins : Instr} {ls ls' : ai_L} {st st' : List ai_V} (hp : ai_loc ins ls st = some (ls', st')) (hd : decode cc pc = .ok (ins, ai_len ins)) (hl : ai_lr ρ ls lsA)
    (k : ∀ lsB : Array Slot, ai_lr ρ ls' lsB → W p l e R s m args below meth c H locs cells slots Q (F0 m (pc + ai_len ins) lsB (st'.map (ai_v ρ)))) : W p l e R s m args below meth c H locs cells slots Q (F0 m pc lsA (st.map (ai_v ρ))) := by
  cases ins
  case iload i =>
    simp only [ai_loc] at hp
    split at hp
    · rename_i x hi
      cases hp
      exact lv_iload hx hb hd (hl.get hi) (k _ hl)
    · cases hp
  case iload_n n =>
    simp only [ai_loc] at hp
    split at hp
    · rename_i x hi
      cases hp
      exact lv_iload_n hx hb hd rfl (hl.get hi) (k _ hl)
    · cases hp
  case lload i =>
    simp only [ai_loc] at hp
    split at hp
    · rename_i x hi
      cases hp
      exact lv_lload hx hb hd (hl.get hi) (k _ hl)
    · cases hp
  case lload_n n =>
    simp only [ai_loc] at hp
    split at hp
    · rename_i x hi
      cases hp
      exact lv_lload_n hx hb hd rfl (hl.get hi) (k _ hl)
    · cases hp
  case aload i =>
    simp only [ai_loc] at hp
    split at hp
    · rename_i x hi
      cases hp
      cases x with
      | none => exact lv_aloadN hx hb hd (hl.get hi) (k _ hl)
      | some a => exact lv_aload hx hb hd (hl.get hi) (k _ hl)
    · cases hp
  case aload_n n =>
    simp only [ai_loc] at hp
    split at hp
    · rename_i x hi
      cases hp
      cases x with
      | none => exact lv_aload_nN hx hb hd rfl (hl.get hi) (k _ hl)
      | some a => exact lv_aload_n hx hb hd rfl (hl.get hi) (k _ hl)
    · cases hp
  case istore i =>
    simp only [ai_loc] at hp
    split at hp
    · rename_i x r
      obtain ⟨q, hq, hz⟩ := Option.map_eq_some_iff.mp hp
      cases hz
      obtain ⟨lv, h1, h2⟩ := hl
      have hi : i < ls.length := by
        unfold ai_st1 at hq
        split at hq
        · rename_i z; exact z.1
        · cases hq
      exact lv_istore hx hb hd h1 hi rfl (fun lsB hB => k lsB (ai_lr.set1 hq h2 hB))
    · cases hp
  case istore_n n =>
    simp only [ai_loc] at hp
    split at hp
    · rename_i x r
      obtain ⟨q, hq, hz⟩ := Option.map_eq_some_iff.mp hp
      cases hz
      obtain ⟨lv, h1, h2⟩ := hl
      have hi : (n : Nat) < ls.length := by
        unfold ai_st1 at hq
        split at hq
        · rename_i z; exact z.1
        · cases hq
      exact lv_istore_n hx hb hd rfl h1 hi rfl (fun lsB hB => k lsB (ai_lr.set1 hq h2 hB))
    · cases hp
  case lstore i =>
    simp only [ai_loc] at hp
    split at hp
    · rename_i x r
      obtain ⟨q, hq, hz⟩ := Option.map_eq_some_iff.mp hp
      cases hz
      obtain ⟨lv, h1, h2⟩ := hl
      have hi : i + 1 < ls.length := by
        unfold ai_st2 at hq
        split at hq
        · rename_i z; exact z.1
        · cases hq
      exact lv_lstore hx hb hd h1 hi rfl (fun lsB hB => k lsB (ai_lr.set2 hq h2 hB))
    · cases hp
  case lstore_n n =>
    simp only [ai_loc] at hp
    split at hp
    · rename_i x r
      obtain ⟨q, hq, hz⟩ := Option.map_eq_some_iff.mp hp
      cases hz
      obtain ⟨lv, h1, h2⟩ := hl
      have hi : (n : Nat) + 1 < ls.length := by
        unfold ai_st2 at hq
        split at hq
        · rename_i z; exact z.1
        · cases hq
      exact lv_lstore_n hx hb hd rfl h1 hi rfl (fun lsB hB => k lsB (ai_lr.set2 hq h2 hB))
    · cases hp
  case astore i =>
    simp only [ai_loc] at hp
    split at hp
    · rename_i x r
      obtain ⟨q, hq, hz⟩ := Option.map_eq_some_iff.mp hp
      cases hz
      obtain ⟨lv, h1, h2⟩ := hl
      have hi : i < ls.length := by
        unfold ai_st1 at hq
        split at hq
        · rename_i z; exact z.1
        · cases hq
      cases x with
      | none => exact lv_astoreN hx hb hd h1 hi rfl (fun lsB hB => k lsB (ai_lr.set1 hq h2 hB))
      | some a => exact lv_astore hx hb hd h1 hi rfl (fun lsB hB => k lsB (ai_lr.set1 hq h2 hB))
    · cases hp
  case astore_n n =>
    simp only [ai_loc] at hp
    split at hp
    · rename_i x r
      obtain ⟨q, hq, hz⟩ := Option.map_eq_some_iff.mp hp
      cases hz
      obtain ⟨lv, h1, h2⟩ := hl
      have hi : (n : Nat) < ls.length := by
        unfold ai_st1 at hq
        split at hq
        · rename_i z; exact z.1
        · cases hq
      cases x with
      | none => exact lv_astore_nN hx hb hd rfl h1 hi rfl (fun lsB hB => k lsB (ai_lr.set1 hq h2 hB))
      | some a => exact lv_astore_n hx hb hd rfl h1 hi rfl (fun lsB hB => k lsB (ai_lr.set1 hq h2 hB))
    · cases hp
  case iinc i n =>
    simp only [ai_loc] at hp
    split at hp
    · rename_i x hi
      obtain ⟨q, hq, hz⟩ := Option.map_eq_some_iff.mp hp
      cases hz
      obtain ⟨lv, h1, h2⟩ := hl
      have hn : i < ls.length := (List.getElem?_eq_some_iff.mp hi).1
      obtain ⟨j, hj⟩ := List.getElem?_of_mem (h2 i _ hi)
      exact lv_iinc hx hb hd h1 (k := j) hj rfl hn rfl (fun lsB hB => k lsB (ai_lr.set1 hq h2 hB))
    · cases hp
  all_goals (simp [ai_loc] at hp)
end AI1
end
section
/-! Steps on the heap. -/
def ai_tys (dA : Nat → ClassId) (tyL : List FieldType) : List (ClassId × FieldType) := (List.range tyL.length).map fun t => (dA t, tyL.getD t .float)
theorem ai_tys_at {dA : Nat → ClassId} {tyL : List FieldType} {t : Nat} {ty : FieldType} (h : tyL.getD t .float = ty) (hn : ty ≠ .float) : (ai_tys dA tyL)[t]? = some (dA t, ty) := by
  have hl : t < tyL.length := by
    rcases Nat.lt_or_ge t tyL.length with q | q
    · exact q
    · exfalso
      rw [List.getD_eq_getElem?_getD, List.getElem?_eq_none q] at h
      exact hn h.symm
  simp only [ai_tys, List.getElem?_map, List.getElem?_range hl, Option.map_some, h]
/-- the classes: their words, their fields' types, their fields' names -/
def ai_clok (Ts : List Cond) (cl : List vw_C) (tyF : Nat → Nat → FieldType) : Prop := ∀ (ci : Nat) (C : String) (T : u_T) (N : Nat), cl[ci]? = some (C, T, N) →
  (∀ w ∈ u_ws C T N, w ∈ Ts) ∧ (∀ k, k < N → parseFieldDescriptor (T k).2.2.1 = some (tyF ci k)) ∧ ∀ a, a < N → ∀ b, b < N → a ≠ b → (T a).2.1 ≠ (T b).2.1
/-- a field's link -/
def ai_fok (Ts : List Cond) (cl : List vw_C) (own : String) (idx ci k : Nat) : Prop := ∃ (C : String) (T : u_T) (N : Nat) (ref : String), cl[ci]? = some (C, T, N) ∧ k < N ∧
  (Cond.fieldLink own idx ref (T k).2.1 (T k).2.2.1 ∈ Ts ∨ ∃ host, Cond.fieldLinkNest own idx ref (T k).2.1 (T k).2.2.1 host ∈ Ts) ∧ (ref = (T k).1 ∨ Cond.sameField ref (T k).1 (T k).2.1 (T k).2.2.1 ∈ Ts)
/-- .. one that may be written: not final, or in a constructor of its own class -/
def ai_pok (Ts : List Cond) (cl : List vw_C) (own mn : String) (idx ci k : Nat) : Prop := ∃ (C : String) (T : u_T) (N : Nat) (ref : String), cl[ci]? = some (C, T, N) ∧ k < N ∧ (ref = (T k).1 ∨ Cond.sameField ref (T k).1 (T k).2.1 (T k).2.2.1 ∈ Ts) ∧
  (((T k).2.2.2 = false ∧ (Cond.fieldLink own idx ref (T k).2.1 (T k).2.2.1 ∈ Ts ∨ ∃ host, Cond.fieldLinkNest own idx ref (T k).2.1 (T k).2.2.1 host ∈ Ts)) ∨
   ((T k).2.2.2 = true ∧ mn = "<init>" ∧ (T k).1 = own ∧ Cond.fieldLink own idx ref (T k).2.1 (T k).2.2.1 ∈ Ts))
/-- what a row that works on the heap must keep -/
def ai_hok (Ts : List Cond) (cl : List vw_C) (tyL : List FieldType) (tyF : Nat → Nat → FieldType) (dfl : Nat → List ai_V) (own mn : String) (ins : Instr) (ks : List Nat) : Prop := match ins with
  | .ldc idx => Cond.constant own idx (Int32.ofNat (ks.getD 0 0)) ∈ Ts
  | .ldc2_w idx => Cond.constantLong own idx (Int64.ofNat (ks.getD 0 0)) ∈ Ts
  | .getfield idx => ai_fok Ts cl own idx (ks.getD 0 0) (ks.getD 1 0)
  | .putfield idx => ai_pok Ts cl own mn idx (ks.getD 0 0) (ks.getD 1 0)
  | .new idx => ∃ (C : String) (T : u_T) (N : Nat), cl[ks.getD 0 0]? = some (C, T, N) ∧ Cond.classLink own idx C ∈ Ts ∧ Cond.instantiable C N ∈ Ts ∧ Cond.initialized C ∈ Ts ∧ (dfl (ks.getD 0 0)).length = N ∧ ∀ j, j < N → ai_v (fun _ => 0) ((dfl (ks.getD 0 0)).getD j (.inr (.inr none))) = defaultValue (tyF (ks.getD 0 0) j) ∧ ∀ a, (dfl (ks.getD 0 0)).getD j (.inr (.inr none)) ≠ .inr (.inr (some a))
  | .newarray at_ => tyL.getD (ks.getD 0 0) .float = newarray.typeOf at_ ∧ newarray.typeOf at_ ≠ .float ∧ newarray.typeOf at_ ≠ .double ∧ Cond.arrayClass (newarray.typeOf at_) ∈ Ts
  | .anewarray idx => ∃ C, tyL.getD (ks.getD 0 0) .float = .object C ∧ Cond.classLink own idx C ∈ Ts ∧ Cond.arrayOver (.object C) ∈ Ts
  | .checkcast idx => ∃ (C : String) (T : u_T) (N : Nat), cl[ks.getD 0 0]? = some (C, T, N) ∧ Cond.classLink own idx C ∈ Ts
  | _ => True
/-- which objects an array of references takes -/
def ai_aok (Ts : List Cond) (cl : List vw_C) (tyL : List FieldType) (asg : Nat → Nat → Bool) : Prop := ∀ t cj, asg t cj = true → ∃ (E : String) (r : vw_C), tyL.getD t .float = .object E ∧ cl[cj]? = some r ∧ (r.1 = E ∨ Cond.castable r.1 E ∈ Ts)
theorem ai_fit_char {x : Int32} (h1 : 0 ≤ x) (h2 : x ≤ 65535) : x.toUInt32.toUInt16.toUInt32.toInt32 = x := by
  have e1 := Int32.le_iff_toInt_le.mp h1
  have e2 := Int32.le_iff_toInt_le.mp h2
  have z1 : (0 : Int32).toInt = 0 := by decide
  have z2 : (65535 : Int32).toInt = 65535 := by decide
  exact lg_i2c_small (by omega) (by omega)
theorem ai_fit_ok {ρ : ai_A → Nat} {ty : FieldType} {v : ai_V} (h : ai_fit ty v = true) : narrow ty (ai_v ρ v) = ai_v ρ v ∧ fits ty (ai_v ρ v) = true := by
  cases ty
  case boolean =>
    rcases v with x | x | _ | a
    · have h : x = 0 ∨ x = 1 := by simpa [ai_fit] using h
      rcases h with rfl | rfl
      · exact ⟨rfl, rfl⟩
      · exact ⟨rfl, rfl⟩
    all_goals (simp [ai_fit] at h)
  case char =>
    rcases v with x | x | _ | a
    · have h : 0 ≤ x ∧ x ≤ 65535 := by simpa [ai_fit] using h
      refine ⟨?_, ?_⟩
      · show Value.int _ = Value.int x
        rw [ai_fit_char h.1 h.2]
      · show (decide (0 ≤ x) && decide (x ≤ 65535)) = true
        simp [h.1, h.2]
    all_goals (simp [ai_fit] at h)
  all_goals (rcases v with x | x | _ | a <;> first | exact ⟨rfl, rfl⟩ | (simp [ai_fit] at h; done))
section AI2
variable {p : Program} {l : Launch} {e : Env} {R : Room} {s : State} {m : MethodId} {args : Array Value} {below : List Frame} {meth : Method} {c : Code} {H : Heap} {locs : List Loc} {cells slots : Nat} {Q : State → Prop}
variable {cc : ByteArray} {pc : Nat} {lsA : Array Slot} {ρ : ai_A → Nat} {D : va_G} {cl : List vw_C} {dA : Nat → ClassId} {B : Nat → Prop} {h h' : ai_H} {Ts : List Cond} {tyL : List FieldType} {tyF : Nat → Nat → FieldType} {dfl : Nat → List ai_V} {own : String} {ks : List Nat}
theorem ai_link (hts : ∀ w ∈ Ts, w.before args s = true) {ref o n d : String} (hr : ref = o ∨ Cond.sameField ref o n d ∈ Ts) : ∀ x, s.fieldFound? o n d = some x → s.fieldFound? ref n d = some x := by
  rcases hr with rfl | hr
  · exact fun _ z => z
  · exact fun x z => u_same (hts _ hr) x z
/-- a read leaves all as it was -/
theorem ai_get_W (hx : p.tables.exec = Jvm.exec) (hb : c.code = cc) (hts : ∀ w ∈ Ts, w.before args s = true) (hown : s.vm.findClass own = some m.cls) (hcl : ai_clok Ts cl tyF) {tys : List (ClassId × FieldType)} (hK : va_K D cl tys s) (hR : ai_R D cl dA B ρ h H)
    {idx ci k : Nat} {fs : List ai_V} {a : ai_A} {v : ai_V} {rest : List Value} (ha : h.1 a = some (.inl (ci, fs))) (hv : fs[k]? = some v) (hok : ai_fok Ts cl own idx ci k) (hd : decode cc pc = .ok (.getfield idx, 3))
    (kk : W p l e R s m args below meth c H locs cells slots Q (F0 m (pc + 3) lsA (ai_v ρ v :: rest))) : W p l e R s m args below meth c H locs cells slots Q (F0 m pc lsA (.ref (ρ a) :: rest)) := by
  obtain ⟨dom, h1, hP, hD, hc⟩ := hR
  obtain ⟨j, -, hj⟩ := ai_R.idx (D := D) (cl := cl) (dA := dA) (ρ := ρ) h1 ha rfl
  obtain ⟨C, T, N, ref, g1, g2, g3, g4⟩ := hok
  obtain ⟨w1, -, -⟩ := hcl _ _ _ _ g1
  have hv' : (fs.map (ai_v ρ))[k]? = some (ai_v ρ v) := by simp [hv]
  rcases g3 with g3 | ⟨host, g3⟩
  · exact va_get hx hb hts w1 hown hK hP j hj g1 k g2 (hts _ g3) (ai_link hts g4) hv' hd kk
  · exact va_getN hx hb hts w1 hown hK hP j hj g1 k g2 (hts _ g3) (ai_link hts g4) hv' hd kk
theorem ai_put_W (hx : p.tables.exec = Jvm.exec) (hb : c.code = cc) (hts : ∀ w ∈ Ts, w.before args s = true) (hown : s.vm.findClass own = some m.cls) (hcl : ai_clok Ts cl tyF) {tys : List (ClassId × FieldType)} (hK : va_K D cl tys s) (hR : ai_R D cl dA B ρ h H) (hS : va_S B s.heap H locs)
    {idx ci k : Nat} {fs : List ai_V} {a : ai_A} {v : ai_V} {rest : List Value} (ha : h.1 a = some (.inl (ci, fs))) (hl : k < fs.length) (hf : ai_fit (tyF ci k) v = true) (hv : ai_ok h v) (hok : ai_pok Ts cl own meth.name idx ci k) (hd : decode cc pc = .ok (.putfield idx, 3))
    (kk : ∀ (H1 : Heap) (locs1 : List Loc), ai_R D cl dA B ρ (ai_put h a (.inl (ci, fs.set k v))) H1 → va_S B s.heap H1 locs1 → W p l e R s m args below meth c H1 locs1 cells slots Q (F0 m (pc + 3) lsA rest)) :
    W p l e R s m args below meth c H locs cells slots Q (F0 m pc lsA (ai_v ρ v :: .ref (ρ a) :: rest)) := by
  obtain ⟨dom, h1, hP, hD, hc⟩ := hR
  obtain ⟨j, hj0, hj⟩ := ai_R.idx (D := D) (cl := cl) (dA := dA) (ρ := ρ) h1 ha rfl
  obtain ⟨C, T, N, ref, g1, g2, g4, g3⟩ := hok
  obtain ⟨w1, w2, w3⟩ := hcl _ _ _ _ g1
  obtain ⟨f1, f2⟩ := ai_fit_ok (ρ := ρ) hf
  have hx' : ai_cok h (.inl (ci, fs.set k v)) := fun w hw => by
    rcases List.mem_or_eq_of_mem_set hw with z | z
    · exact hc _ _ ha w z
    · rw [z]; exact hv
  have he : ai_e dA ρ (.inl (ci, fs.set k v)) = .inr (ci, (fs.map (ai_v ρ)).set k (ai_v ρ v)) := by
    show Sum.inr (ci, (fs.set k v).map (ai_v ρ)) = _
    rw [List.map_set]
  have fin : ∀ (H1 : Heap) (locs1 : List Loc), va_P D cl ((ai_ws dA ρ h dom).set j (ρ a, .inr (ci, (fs.map (ai_v ρ)).set k (ai_v ρ v)))) H1 → va_D B ((ai_ws dA ρ h dom).set j (ρ a, .inr (ci, (fs.map (ai_v ρ)).set k (ai_v ρ v)))) → va_S B s.heap H1 locs1 → W p l e R s m args below meth c H1 locs1 cells slots Q (F0 m (pc + 3) lsA rest) := by
    intro H1 locs1 q1 q2 q3
    rw [← he] at q1 q2
    exact kk H1 locs1 (ai_R.put h1 hc hD hj0 ha rfl rfl hx' q1 q2) q3
  rcases g3 with ⟨g5, g3 | ⟨host, g3⟩⟩ | ⟨g5, g6, g7, g3⟩
  · exact va_put hx hb hts w1 (tyF ci) w2 w3 hown hK hP hD hS j hj g1 k g2 (hts _ g3) (ai_link hts g4) g5 (w2 k g2) f1 f2 (by simpa using hl) hd fin
  · exact va_putN hx hb hts w1 (tyF ci) w2 w3 hown hK hP hD hS j hj g1 k g2 (hts _ g3) (ai_link hts g4) g5 (w2 k g2) f1 f2 (by simpa using hl) hd fin
  · exact va_putF hx hb hts w1 (tyF ci) w2 w3 hown hK hP hD hS j hj g1 k g2 (hts _ g3) (ai_link hts g4) g5 g6 g7 (w2 k g2) f1 f2 (by simpa using hl) hd fin
/-- a store to an array -/
theorem ai_st_fin {dom : List ai_A} {j t n t' n' : Nat} {a : ai_A} {d d' : ai_D} {q0 : Nat} {rest : List Value}
    (h1 : ∀ a, a ∈ dom ↔ ∃ x, h.1 a = some x ∧ ai_solid x = true) (hc : ∀ a x, h.1 a = some x → ai_cok h x) (hD : va_D B (ai_ws dA ρ h dom)) (hj0 : dom[j]? = some a) (ha : h.1 a = some (.inr (.inl (t, n, d)))) (hx' : ai_cok h (.inr (.inl (t', n', d'))))
    (kk : ∀ (H1 : Heap) (locs1 : List Loc), ai_R D cl dA B ρ (ai_put h a (.inr (.inl (t', n', d')))) H1 → va_S B s.heap H1 locs1 → W p l e R s m args below meth c H1 locs1 cells slots Q (F0 m q0 lsA rest))
    {E : va_E} (hE : E = ai_e dA ρ (.inr (.inl (t', n', d')))) (H1 : Heap) (locs1 : List Loc) (q1 : va_P D cl ((ai_ws dA ρ h dom).set j (ρ a, E)) H1) (q2 : va_D B ((ai_ws dA ρ h dom).set j (ρ a, E))) (q3 : va_S B s.heap H1 locs1) :
    W p l e R s m args below meth c H1 locs1 cells slots Q (F0 m q0 lsA rest) := by
  subst hE
  exact kk H1 locs1 (ai_R.put h1 hc hD hj0 ha rfl rfl hx' q1 q2) q3
end AI2
end
section
theorem ai_RA_inj {U : State} {c1 c2 : ClassId} {ty : FieldType} (h1 : va_RA U c1 ty) (h2 : va_RA U c2 ty) : c1 = c2 := by
  cases ty with
  | object C =>
    obtain ⟨_, _, -, -, -, g1⟩ := h1
    obtain ⟨_, _, -, -, -, g2⟩ := h2
    exact Option.some.inj (g1.symm.trans g2)
  | _ => exact Option.some.inj (h1.symm.trans h2)
theorem ai_ok_int {h : ai_H} {x : Int32} : ai_ok h (.inl x) := fun _ z => by cases z
theorem ai_ok_long {h : ai_H} {x : Int64} : ai_ok h (.inr (.inl x)) := fun _ z => by cases z
theorem ai_ok_null {h : ai_H} : ai_ok h (.inr (.inr none)) := fun _ z => by cases z
theorem ai_ok_ref {h : ai_H} {a : ai_A} (q : (h.1 a).isSome = true) : ai_ok h (.inr (.inr (some a))) := fun _ z => by cases z; exact q
theorem ai_oks {h : ai_H} {v : ai_V} {st : List ai_V} (hv : ai_ok h v) (hs : ∀ w ∈ st, ai_ok h w) : ∀ w ∈ v :: st, ai_ok h w := fun w hw => by
  rcases List.mem_cons.mp hw with rfl | hw
  · exact hv
  · exact hs w hw
theorem ai_okt {h : ai_H} {v : ai_V} {st : List ai_V} (hs : ∀ w ∈ v :: st, ai_ok h w) : ∀ w ∈ st, ai_ok h w := fun w hw => hs w (List.mem_cons_of_mem _ hw)
theorem ai_oksP {h : ai_H} {a : ai_A} {x : ai_C} {st : List ai_V} (hs : ∀ w ∈ st, ai_ok h w) : ∀ w ∈ st, ai_ok (ai_put h a x) w := fun w hw => ai_put_ok (hs w hw)
theorem ai_oksN {h : ai_H} {s n : Nat} {x : ai_C} {st : List ai_V} (hs : ∀ w ∈ st, ai_ok h w) : ∀ w ∈ st, ai_ok (ai_new h s x n) w := fun w hw a ha => ai_new_some (hs w hw a ha)
theorem ai_le_refl {h : ai_H} {ρ : ai_A → Nat} : ai_le h ρ ρ := fun _ _ => rfl
theorem ai_rf {ρ : ai_A → Nat} (r : Option ai_A) : va_rf (r.map ρ) = ai_v ρ (.inr (.inr r)) := by cases r <;> rfl
theorem ai_up_map {ρ : ai_A → Nat} (f : Nat → Option ai_A) (i : Nat) (r : Option ai_A) : va_up (fun j => (f j).map ρ) i (r.map ρ) = fun j => (va_up f i r j).map ρ := by
  funext j
  by_cases hj : j = i
  · subst hj
    simp [va_up]
  · simp [va_up, hj]
theorem ai_up_cok {h : ai_H} {t n : Nat} {f : Nat → Option ai_A} {i : Nat} {r : Option ai_A} (hf : ai_cok h (.inr (.inl (t, n, .inr (.inr f))))) (hr : ∀ a, r = some a → (h.1 a).isSome = true) : ai_cok h (.inr (.inl (t, n, .inr (.inr (va_up f i r))))) := by
  intro j a ha
  by_cases hj : j = i
  · subst hj
    have : r = some a := by simpa [va_up] using ha
    exact hr a this
  · have : f j = some a := by simpa [va_up, hj] using ha
    exact hf j a this
theorem ai_vpV {ρ : ai_A → Nat} (l : List ai_V) (j : Nat) : vp_V (l.map (ai_v ρ)) j = ai_v ρ (l.getD j (.inr (.inr none))) := by
  simp only [vp_V, List.getD_eq_getElem?_getD, List.getElem?_map]
  cases l[j]? <;> rfl
section AI3
variable {p : Program} {l : Launch} {e : Env} {R : Room} {s : State} {m : MethodId} {args : Array Value} {below : List Frame} {meth : Method} {c : Code} {H : Heap} {locs : List Loc} {cells slots : Nat} {Q : State → Prop}
variable {cc : ByteArray} {pc : Nat} {lsA : Array Slot} {ρ : ai_A → Nat} {D : va_G} {cl : List vw_C} {dA : Nat → ClassId} {B : Nat → Prop} {h h' : ai_H} {Ts : List Cond} {tyL : List FieldType} {tyF : Nat → Nat → FieldType} {dfl : Nat → List ai_V} {asg : Nat → Nat → Bool} {own : String} {ks : List Nat}
set_option maxHeartbeats 8000000 in
theorem ai_heap_W (hx : p.tables.exec = Jvm.exec) (hb : c.code = cc) (hts : ∀ w ∈ Ts, w.before args s = true) (hown : s.vm.findClass own = some m.cls) (hcl : ai_clok Ts cl tyF) (hasg : ai_aok Ts cl tyL asg) (hK : va_K D cl (ai_tys dA tyL) s) (hR : ai_R D cl dA B ρ h H) (hS : va_S B s.heap H locs) (hB : ∀ q, s.heap.size ≤ q → B q)
    {L : Nat} {xs : Nat → Int32} (hsc : ∀ a, h.1 a = some (.inr (.inr 0)) → va_X (ρ a) L xs s s.heap ∧ ρ a < s.heap.size ∧ ¬ B (ρ a)) (hsd : ∀ a, h.1 a = some (.inr (.inr 2)) → va_T (.object "java/lang/Object") (ρ a) 0 (fun _ => .null) B s s.heap)
    {ins : Instr} {st st' : List ai_V} (hst : ∀ v ∈ st, ai_ok h v) (hp : ai_heap dfl (fun t => tyL.getD t .float) tyF asg L xs ins ks st h = some (st', h')) (hok : ai_hok Ts cl tyL tyF dfl own meth.name ins ks) (hd : decode cc pc = .ok (ins, ai_len ins))
    (hrc : cells + h'.2.2.1 ≤ R.cells + h.2.2.1) (hrs : slots + h'.2.2.2 ≤ R.slots + h.2.2.2)
    (k : ∀ (ρ' : ai_A → Nat) (H' : Heap) (locs' : List Loc) (cells' slots' : Nat), ai_le h ρ ρ' → ai_R D cl dA B ρ' h' H' → va_S B s.heap H' locs' → (∀ v ∈ st', ai_ok h' v) → (∀ b, (h.1 b).isSome = true → (h'.1 b).isSome = true) → (∀ b k, h'.1 b = some (.inr (.inr k)) → h.1 b = some (.inr (.inr k))) → cells' + h.2.2.1 = cells + h'.2.2.1 → slots' + h.2.2.2 = slots + h'.2.2.2 →
      W p l e R s m args below meth c H' locs' cells' slots' Q (F0 m (pc + ai_len ins) lsA (st'.map (ai_v ρ')))) : W p l e R s m args below meth c H locs cells slots Q (F0 m pc lsA (st.map (ai_v ρ))) := by
  have hR0 := hR
  obtain ⟨dom, h1, hP, hD, hc⟩ := hR
  have op : ∀ {a : ai_A} {x y : ai_C}, h.1 a = some y → ai_solid x = true → ∀ b k, (ai_put h a x).1 b = some (.inr (.inr k)) → h.1 b = some (.inr (.inr k)) := by
    intro a x y _ hxs b k hb
    by_cases z : b = a
    · subst z
      have : x = .inr (.inr k) := by simpa [ai_put, ai_upd] using hb
      rw [this] at hxs
      cases hxs
    · simpa [ai_put, ai_upd, z] using hb
  have on : ∀ {s' n : Nat} {x : ai_C}, ai_solid x = true → ∀ b k, (ai_new h s' x n).1 b = some (.inr (.inr k)) → h.1 b = some (.inr (.inr k)) := by
    intro s' n x hxs b k hb
    by_cases z : b = (s', h.2.1 s')
    · subst z
      have : x = .inr (.inr k) := by simpa [ai_new, ai_upd] using hb
      rw [this] at hxs
      cases hxs
    · simpa [ai_new, ai_upd, z] using hb
  cases ins
  case ldc idx =>
    cases hp
    exact lv_ldc hx hb hown (hts _ hok) hd (k ρ H locs cells slots ai_le_refl hR0 hS (ai_oks ai_ok_int hst) (fun _ z => z) (fun _ _ z => z) rfl rfl)
  case ldc2_w idx =>
    cases hp
    exact lv_ldc2 hx hb hown (hts _ hok) hd (k ρ H locs cells slots ai_le_refl hR0 hS (ai_oks ai_ok_long hst) (fun _ z => z) (fun _ _ z => z) rfl rfl)
  case getfield idx =>
    simp only [ai_heap] at hp
    split at hp
    · split at hp
      · rename_i a r _ cj fs ha
        split at hp
        · rename_i hcj
          obtain ⟨v, hv, hz⟩ := Option.map_eq_some_iff.mp hp
          cases hz
          subst hcj
          exact ai_get_W hx hb hts hown hcl hK hR0 ha hv hok hd (k ρ H locs cells slots ai_le_refl hR0 hS (ai_oks (hc _ _ ha v (List.mem_of_getElem? hv)) (ai_okt hst)) (fun _ z => z) (fun _ _ z => z) rfl rfl)
        · cases hp
      · cases hp
    · cases hp
  case putfield idx =>
    simp only [ai_heap] at hp
    split at hp
    · split at hp
      · rename_i v a r _ cj fs ha
        split at hp
        · rename_i hcj
          obtain ⟨q1, q2, q3⟩ := hcj
          cases hp
          subst q1
          exact ai_put_W hx hb hts hown hcl hK hR0 hS ha q2 q3 (hst v List.mem_cons_self) hok hd (fun H1 locs1 g1 g2 => k ρ H1 locs1 cells slots ai_le_refl g1 g2 (ai_oksP (ai_okt (ai_okt hst))) (fun b z => ai_put_some z) (op ha rfl) rfl rfl)
        · cases hp
      · cases hp
    · cases hp
  case iaload =>
    simp only [ai_heap] at hp
    split at hp
    · split at hp
      · rename_i i a r _ t n f ha
        split at hp
        · rename_i hc2
          cases hp
          obtain ⟨j, -, hj⟩ := ai_R.idx (D := D) (cl := cl) (dA := dA) (ρ := ρ) h1 ha rfl
          exact va_iald hx hb hK hP j t hj (ai_tys_at hc2.1 (by decide)) hc2.2 hd (k ρ H locs cells slots ai_le_refl hR0 hS (ai_oks ai_ok_int (ai_okt (ai_okt hst))) (fun _ z => z) (fun _ _ z => z) rfl rfl)
        · cases hp
      · rename_i i a r _ ha
        split at hp
        · rename_i hc2
          cases hp
          obtain ⟨s1, s2, s3⟩ := hsc a ha
          exact va_sld hx hb s1 s2 s3 hS hc2 hd (k ρ H locs cells slots ai_le_refl hR0 hS (ai_oks ai_ok_int (ai_okt (ai_okt hst))) (fun _ z => z) (fun _ _ z => z) rfl rfl)
        · cases hp
      · cases hp
    · cases hp
  case caload =>
    simp only [ai_heap] at hp
    split at hp
    · split at hp
      · rename_i i a r _ t n f ha
        split at hp
        · rename_i hc2
          cases hp
          obtain ⟨j, -, hj⟩ := ai_R.idx (D := D) (cl := cl) (dA := dA) (ρ := ρ) h1 ha rfl
          exact va_cald hx hb hK hP j t hj (ai_tys_at hc2.1 (by decide)) hc2.2 hd (k ρ H locs cells slots ai_le_refl hR0 hS (ai_oks ai_ok_int (ai_okt (ai_okt hst))) (fun _ z => z) (fun _ _ z => z) rfl rfl)
        · cases hp
      · cases hp
    · cases hp
  case baload =>
    simp only [ai_heap] at hp
    split at hp
    · split at hp
      · rename_i i a r _ t n f ha
        split at hp
        · rename_i hc2
          cases hp
          obtain ⟨j, -, hj⟩ := ai_R.idx (D := D) (cl := cl) (dA := dA) (ρ := ρ) h1 ha rfl
          exact va_zald hx hb hK hP j t hj (ai_tys_at hc2.1 (by decide)) hc2.2 hd (k ρ H locs cells slots ai_le_refl hR0 hS (ai_oks ai_ok_int (ai_okt (ai_okt hst))) (fun _ z => z) (fun _ _ z => z) rfl rfl)
        · cases hp
      · cases hp
    · cases hp
  case laload =>
    simp only [ai_heap] at hp
    split at hp
    · split at hp
      · rename_i i a r _ t n f ha
        split at hp
        · rename_i hc2
          cases hp
          obtain ⟨j, -, hj⟩ := ai_R.idx (D := D) (cl := cl) (dA := dA) (ρ := ρ) h1 ha rfl
          exact va_lald hx hb hK hP j t hj (ai_tys_at hc2.1 (by decide)) hc2.2 hd (k ρ H locs cells slots ai_le_refl hR0 hS (ai_oks ai_ok_long (ai_okt (ai_okt hst))) (fun _ z => z) (fun _ _ z => z) rfl rfl)
        · cases hp
      · cases hp
    · cases hp
  case aaload =>
    simp only [ai_heap] at hp
    split at hp
    · split at hp
      · rename_i i a r _ t n f ha
        split at hp
        · rename_i hc2
          cases hp
          obtain ⟨j, -, hj⟩ := ai_R.idx (D := D) (cl := cl) (dA := dA) (ρ := ρ) h1 ha rfl
          obtain ⟨E, hE⟩ : ∃ E, tyL.getD t .float = .object E := by
            have := hc2.1
            cases hq : tyL.getD t .float <;> rw [hq] at this <;> first | (cases this; done) | exact ⟨_, rfl⟩
          refine va_aldq hx hb hK hP j t hj (ai_tys_at hE (by simp)) hc2.2 hd ?_
          rw [ai_rf]
          refine k ρ H locs cells slots ai_le_refl hR0 hS (ai_oks ?_ (ai_okt (ai_okt hst))) (fun _ z => z) (fun _ _ z => z) rfl rfl
          intro b hb2
          exact hc _ _ ha i.toNatClampNeg b (by simpa using hb2)
        · cases hp
      · cases hp
    · cases hp
  case iastore =>
    simp only [ai_heap] at hp
    split at hp
    · split at hp
      · rename_i x i a r _ t n f ha
        split at hp
        · rename_i hc2
          cases hp
          obtain ⟨j, hj0, hj⟩ := ai_R.idx (D := D) (cl := cl) (dA := dA) (ρ := ρ) h1 ha rfl
          refine va_iast hx hb hK hP hD hS j t hj (ai_tys_at hc2.1 (by decide)) hc2.2 hd (ai_st_fin (t' := t) (n' := n) (d' := .inl (upd f i.toNatClampNeg x)) h1 hc hD hj0 ha trivial (fun H1 locs1 g1 g2 => ?_) rfl)
          exact k ρ H1 locs1 cells slots ai_le_refl g1 g2 (ai_oksP (ai_okt (ai_okt (ai_okt hst)))) (fun b z => ai_put_some z) (op ha rfl) rfl rfl
        · cases hp
      · cases hp
    · cases hp
  case castore =>
    simp only [ai_heap] at hp
    split at hp
    · split at hp
      · rename_i x i a r _ t n f ha
        split at hp
        · rename_i hc2
          cases hp
          obtain ⟨j, hj0, hj⟩ := ai_R.idx (D := D) (cl := cl) (dA := dA) (ρ := ρ) h1 ha rfl
          refine va_cast hx hb hK hP hD hS j t hj (ai_tys_at hc2.1 (by decide)) hc2.2 hd (ai_st_fin (t' := t) (n' := n) (d' := .inl (upd f i.toNatClampNeg (vp_nar .char x))) h1 hc hD hj0 ha trivial (fun H1 locs1 g1 g2 => ?_) rfl)
          exact k ρ H1 locs1 cells slots ai_le_refl g1 g2 (ai_oksP (ai_okt (ai_okt (ai_okt hst)))) (fun b z => ai_put_some z) (op ha rfl) rfl rfl
        · cases hp
      · cases hp
    · cases hp
  case bastore =>
    simp only [ai_heap] at hp
    split at hp
    · split at hp
      · rename_i x i a r _ t n f ha
        split at hp
        · rename_i hc2
          cases hp
          obtain ⟨j, hj0, hj⟩ := ai_R.idx (D := D) (cl := cl) (dA := dA) (ρ := ρ) h1 ha rfl
          refine va_zast hx hb hK hP hD hS j t hj (ai_tys_at hc2.1 (by decide)) hc2.2 hd (ai_st_fin (t' := t) (n' := n) (d' := .inl (upd f i.toNatClampNeg (vp_nar .boolean x))) h1 hc hD hj0 ha trivial (fun H1 locs1 g1 g2 => ?_) rfl)
          exact k ρ H1 locs1 cells slots ai_le_refl g1 g2 (ai_oksP (ai_okt (ai_okt (ai_okt hst)))) (fun b z => ai_put_some z) (op ha rfl) rfl rfl
        · cases hp
      · cases hp
    · cases hp
  case lastore =>
    simp only [ai_heap] at hp
    split at hp
    · split at hp
      · rename_i x i a r _ t n f ha
        split at hp
        · rename_i hc2
          cases hp
          obtain ⟨j, hj0, hj⟩ := ai_R.idx (D := D) (cl := cl) (dA := dA) (ρ := ρ) h1 ha rfl
          refine va_last hx hb hK hP hD hS j t hj (ai_tys_at hc2.1 (by decide)) hc2.2 hd (ai_st_fin (t' := t) (n' := n) (d' := .inr (.inl (vp_updL f i.toNatClampNeg x))) h1 hc hD hj0 ha trivial (fun H1 locs1 g1 g2 => ?_) rfl)
          exact k ρ H1 locs1 cells slots ai_le_refl g1 g2 (ai_oksP (ai_okt (ai_okt (ai_okt hst)))) (fun b z => ai_put_some z) (op ha rfl) rfl rfl
        · cases hp
      · cases hp
    · cases hp
  case aastore =>
    simp only [ai_heap] at hp
    split at hp
    · split at hp
      · rename_i i a r _ t n f ha
        split at hp
        · rename_i hc2
          cases hp
          obtain ⟨j, hj0, hj⟩ := ai_R.idx (D := D) (cl := cl) (dA := dA) (ρ := ρ) h1 ha rfl
          obtain ⟨E, hE⟩ : ∃ E, tyL.getD t .float = .object E := by
            have := hc2.1
            cases hq : tyL.getD t .float <;> rw [hq] at this <;> first | (cases this; done) | exact ⟨_, rfl⟩
          refine va_astqN hx hb hK hP hD hS j t hj (ai_tys_at hE (by simp)) hc2.2 hd (ai_st_fin (t' := t) (n' := n) (d' := .inr (.inr (va_up f i.toNatClampNeg none))) h1 hc hD hj0 ha (ai_up_cok (hc _ _ ha) (fun _ z => by cases z)) (fun H1 locs1 g1 g2 => ?_) ?_)
          · exact k ρ H1 locs1 cells slots ai_le_refl g1 g2 (ai_oksP (ai_okt (ai_okt (ai_okt hst)))) (fun b z => ai_put_some z) (op ha rfl) rfl rfl
          · exact congrArg (fun g => (Sum.inl (dA t, n, Sum.inr (Sum.inr (Sum.inr (Sum.inr g)))) : va_E)) (ai_up_map f i.toNatClampNeg none)
        · cases hp
      · cases hp
    · split at hp
      · rename_i b i a r _ _ t n f cj fs ha hbb
        split at hp
        · rename_i hc2
          cases hp
          obtain ⟨j, hj0, hj⟩ := ai_R.idx (D := D) (cl := cl) (dA := dA) (ρ := ρ) h1 ha rfl
          obtain ⟨j2, -, hj2⟩ := ai_R.idx (D := D) (cl := cl) (dA := dA) (ρ := ρ) h1 hbb rfl
          obtain ⟨E, r0, hE, hr0, hca⟩ := hasg t cj hc2.1
          have fin : ∀ (H1 : Heap) (locs1 : List Loc), va_P D cl ((ai_ws dA ρ h dom).set j (ρ a, .inl (dA t, n, .inr (.inr (.inr (.inr (va_up (fun j => (f j).map ρ) i.toNatClampNeg (some (ρ b))))))))) H1 → va_D B ((ai_ws dA ρ h dom).set j (ρ a, .inl (dA t, n, .inr (.inr (.inr (.inr (va_up (fun j => (f j).map ρ) i.toNatClampNeg (some (ρ b))))))))) → va_S B s.heap H1 locs1 → W p l e R s m args below meth c H1 locs1 cells slots Q (F0 m (pc + 1) lsA (st'.map (ai_v ρ))) := by
            refine ai_st_fin (t' := t) (n' := n) (d' := .inr (.inr (va_up f i.toNatClampNeg (some b)))) h1 hc hD hj0 ha (ai_up_cok (hc _ _ ha) (fun a' z => by cases z; rw [hbb]; rfl)) (fun H1 locs1 g1 g2 => ?_) ?_
            · exact k ρ H1 locs1 cells slots ai_le_refl g1 g2 (ai_oksP (ai_okt (ai_okt (ai_okt hst)))) (fun b z => ai_put_some z) (op ha rfl) rfl rfl
            · exact congrArg (fun g => (Sum.inl (dA t, n, Sum.inr (Sum.inr (Sum.inr (Sum.inr g)))) : va_E)) (ai_up_map f i.toNatClampNeg (some b))
          rcases hca with hca | hca
          · subst hca
            exact va_astq hx hb hK hP hD hS j t j2 cj hj (ai_tys_at hE (by simp)) hj2 hr0 hc2.2 hd fin
          · exact va_astqO hx hb hK hP hD hS j t j2 cj hj (ai_tys_at hE (by simp)) (va_Nw.of rfl (hts _ hca)) hj2 hr0 hc2.2 hd fin
        · cases hp
      · cases hp
    · cases hp
  case arraylength =>
    simp only [ai_heap] at hp
    split at hp
    · split at hp
      · rename_i a r _ t n d ha
        split at hp
        · cases hp
        · rename_i hc2
          cases hp
          obtain ⟨j, -, hj⟩ := ai_R.idx (D := D) (cl := cl) (dA := dA) (ρ := ρ) h1 ha rfl
          have kk := k ρ H locs cells slots ai_le_refl hR0 hS (ai_oks ai_ok_int (ai_okt hst)) (fun _ z => z) (fun _ _ z => z) rfl rfl
          rcases d with f | f | f
          · exact va_alen hx hb hK hP j t hj (ai_tys_at rfl hc2) rfl hd kk
          · exact va_alen hx hb hK hP j t hj (ai_tys_at rfl hc2) rfl hd kk
          · exact va_alen hx hb hK hP j t hj (ai_tys_at rfl hc2) rfl hd kk
      · rename_i a r _ ha
        cases hp
        obtain ⟨s1, s2, s3⟩ := hsc a ha
        exact va_slen hx hb s1 s2 s3 hS hd (k ρ H locs cells slots ai_le_refl hR0 hS (ai_oks ai_ok_int (ai_okt hst)) (fun _ z => z) (fun _ _ z => z) rfl rfl)
      · rename_i a r _ ha
        cases hp
        exact va_tlen hx hb (hsd a ha) hS (by decide) hd (k ρ H locs cells slots ai_le_refl hR0 hS (ai_oks ai_ok_int (ai_okt hst)) (fun _ z => z) (fun _ _ z => z) rfl rfl)
      · cases hp
    · cases hp
  case new idx =>
    simp only [ai_heap] at hp
    split at hp
    · rename_i hn
      cases hp
      have hn : h.1 (ks.getD 1 0, h.2.1 (ks.getD 1 0)) = none := by simpa using hn
      obtain ⟨C, T, N, g1, g2, g3, g4, g5, g6⟩ := hok
      obtain ⟨w1, w2, w3⟩ := hcl _ _ _ _ g1
      have hcn : ai_cok h (.inl (ks.getD 0 0, dfl (ks.getD 0 0))) := by
        intro v hv a ha
        obtain ⟨j, hj⟩ := List.getElem?_of_mem hv
        have hjl : j < N := by rw [← g5]; exact (List.getElem?_eq_some_iff.mp hj).1
        exact absurd (by rw [List.getD_eq_getElem?_getD, hj]; exact ha) ((g6 j hjl).2 a)
      have hrc' : cells + 1 ≤ R.cells := by
        have : cells + (h.2.2.1 + 1) ≤ R.cells + h.2.2.1 := hrc
        omega
      have hrs' : slots + N ≤ R.slots := by
        have : slots + (h.2.2.2 + (dfl (ks.getD 0 0)).length) ≤ R.slots + h.2.2.2 := hrs
        omega
      refine va_new hx hb hts w1 (tyF (ks.getD 0 0)) w2 hown (hts _ g2) (hts _ g3) (hts _ g4) hK hP hD hS hB g1 (fs := (dfl (ks.getD 0 0)).map (ai_v ρ)) (fun j hj => ?_) hrc' hrs' hd (fun q H1 q1 q2 q3 => ?_)
      · obtain ⟨e1, e2⟩ := g6 j hj
        rw [← e1]
        rw [ai_vpV]
        generalize (dfl (ks.getD 0 0)).getD j (.inr (.inr none)) = v at e2
        rcases v with x | x | _ | a
        · rfl
        · rfl
        · rfl
        · exact absurd rfl (e2 a)
      · have hle : ai_le h ρ (ai_at ρ (ks.getD 1 0, h.2.1 (ks.getD 1 0)) q) := ai_at_le hn
        have hq : ai_v (ai_at ρ (ks.getD 1 0, h.2.1 (ks.getD 1 0)) q) (.inr (.inr (some (ks.getD 1 0, h.2.1 (ks.getD 1 0))))) = .ref q := by simp [ai_v, ai_at]
        have := k (ai_at ρ (ks.getD 1 0, h.2.1 (ks.getD 1 0)) q) H1 locs (cells + 1) (slots + N) hle (ai_R.new h1 hc hn rfl hcn q1 q2) q3 (ai_oks (ai_ok_ref (by simp [ai_new, ai_upd])) (ai_oksN hst)) (fun b z => ai_new_some z) (on rfl) (by show cells + 1 + h.2.2.1 = cells + (h.2.2.1 + 1); omega) (by show slots + N + h.2.2.2 = slots + (h.2.2.2 + (dfl (ks.getD 0 0)).length); omega)
        rw [List.map_cons, hq, ai_vs_ext hle hst] at this
        exact this
    · cases hp
  case newarray at_ =>
    simp only [ai_heap] at hp
    split at hp
    · rename_i n r
      split at hp
      · rename_i hn
        cases hp
        obtain ⟨hn, hn0, hnb⟩ := hn
        have hn : h.1 (ks.getD 1 0, h.2.1 (ks.getD 1 0)) = none := by simpa using hn
        obtain ⟨g1, g2, g5, g3⟩ := hok
        have hrc' : cells + 1 ≤ R.cells := by
          have : cells + (h.2.2.1 + 1) ≤ R.cells + h.2.2.1 := hrc
          omega
        have hrs' : slots + n.toNatClampNeg ≤ R.slots := by
          have : slots + (h.2.2.2 + n.toNatClampNeg) ≤ R.slots + h.2.2.2 := hrs
          omega
        have hby : n.toNatClampNeg * componentBytes (newarray.typeOf at_) ≤ 536870912 := by
          have : componentBytes (newarray.typeOf at_) ≤ 8 := by cases at_ <;> decide
          exact Nat.le_trans (Nat.mul_le_mul_left _ this) hnb
        have hle : ∀ q, ai_le h ρ (ai_at ρ (ks.getD 1 0, h.2.1 (ks.getD 1 0)) q) := fun q => ai_at_le hn
        have hq : ∀ q, ai_v (ai_at ρ (ks.getD 1 0, h.2.1 (ks.getD 1 0)) q) (.inr (.inr (some (ks.getD 1 0, h.2.1 (ks.getD 1 0))))) = .ref q := fun q => by simp [ai_v, ai_at]
        have hcA : ∀ cA, va_K D cl (ai_tys dA tyL ++ [(cA, newarray.typeOf at_)]) s → cA = dA (ks.getD 0 0) := by
          intro cA hKA
          have e1 := (hKA.2 (ai_tys dA tyL).length (cA, newarray.typeOf at_) (by simp)).2
          have e2 := (hK.2 _ _ (ai_tys_at (dA := dA) g1 g2)).2
          exact ai_RA_inj e1 e2
        by_cases hlong : newarray.typeOf at_ = .long
        · rw [if_pos (by rw [← hlong]; exact g1)] at k
          refine va_newa hx hb (hts _ g3) rfl hK hP hD hS hB (a0 := (n.toNatClampNeg, .inr (.inl fun _ => 0))) (fun cA => by rw [hlong]; rfl) hn0 rfl hby hrc' hrs' hd (fun q cA H1 hKA q1 q2 q3 => ?_)
          obtain rfl := hcA cA hKA
          have := k (ai_at ρ (ks.getD 1 0, h.2.1 (ks.getD 1 0)) q) H1 locs (cells + 1) (slots + n.toNatClampNeg) (hle q) (ai_R.new h1 hc hn rfl trivial q1 q2) q3 (ai_oks (ai_ok_ref (by simp [ai_new, ai_upd])) (ai_oksN (ai_okt hst))) (fun b z => ai_new_some z) (on rfl) (by show cells + 1 + h.2.2.1 = cells + (h.2.2.1 + 1); omega) (by show slots + n.toNatClampNeg + h.2.2.2 = slots + (h.2.2.2 + n.toNatClampNeg); omega)
          rw [List.map_cons, hq, ai_vs_ext (hle q) (ai_okt hst)] at this
          exact this
        · rw [if_neg (by rw [g1]; exact hlong)] at k
          refine va_newa hx hb (hts _ g3) rfl hK hP hD hS hB (a0 := (n.toNatClampNeg, .inl fun _ => 0)) (fun cA => by cases at_ <;> first | rfl | exact absurd rfl hlong | exact absurd rfl g2 | exact absurd rfl g5) hn0 rfl hby hrc' hrs' hd (fun q cA H1 hKA q1 q2 q3 => ?_)
          obtain rfl := hcA cA hKA
          have := k (ai_at ρ (ks.getD 1 0, h.2.1 (ks.getD 1 0)) q) H1 locs (cells + 1) (slots + n.toNatClampNeg) (hle q) (ai_R.new h1 hc hn rfl trivial q1 q2) q3 (ai_oks (ai_ok_ref (by simp [ai_new, ai_upd])) (ai_oksN (ai_okt hst))) (fun b z => ai_new_some z) (on rfl) (by show cells + 1 + h.2.2.1 = cells + (h.2.2.1 + 1); omega) (by show slots + n.toNatClampNeg + h.2.2.2 = slots + (h.2.2.2 + n.toNatClampNeg); omega)
          rw [List.map_cons, hq, ai_vs_ext (hle q) (ai_okt hst)] at this
          exact this
      · cases hp
    · cases hp
  case anewarray idx =>
    simp only [ai_heap] at hp
    split at hp
    · rename_i n r
      split at hp
      · rename_i hn
        cases hp
        obtain ⟨hn, hn0, hnb⟩ := hn
        have hn : h.1 (ks.getD 1 0, h.2.1 (ks.getD 1 0)) = none := by simpa using hn
        obtain ⟨C, g1, g2, g3⟩ := hok
        have hrc' : cells + 1 ≤ R.cells := by
          have : cells + (h.2.2.1 + 1) ≤ R.cells + h.2.2.1 := hrc
          omega
        have hrs' : slots + n.toNatClampNeg ≤ R.slots := by
          have : slots + (h.2.2.2 + n.toNatClampNeg) ≤ R.slots + h.2.2.2 := hrs
          omega
        refine va_newq hx hb hown (hts _ g2) (va_AO.of (hts _ g3)) hK hP hD hS hB hn0 rfl (by omega) hrc' hrs' hd (fun q cA H1 hKA q1 q2 q3 => ?_)
        have hcA : cA = dA (ks.getD 0 0) := by
          have e1 := (hKA.2 (ai_tys dA tyL).length (cA, .object C) (by simp)).2
          have e2 := (hK.2 _ _ (ai_tys_at (dA := dA) g1 (by simp))).2
          exact ai_RA_inj e1 e2
        subst hcA
        have hle : ai_le h ρ (ai_at ρ (ks.getD 1 0, h.2.1 (ks.getD 1 0)) q) := ai_at_le hn
        have hq : ai_v (ai_at ρ (ks.getD 1 0, h.2.1 (ks.getD 1 0)) q) (.inr (.inr (some (ks.getD 1 0, h.2.1 (ks.getD 1 0))))) = .ref q := by simp [ai_v, ai_at]
        have := k (ai_at ρ (ks.getD 1 0, h.2.1 (ks.getD 1 0)) q) H1 locs (cells + 1) (slots + n.toNatClampNeg) hle (ai_R.new (x := .inr (.inl (ks.getD 0 0, n.toNatClampNeg, .inr (.inr fun _ => none)))) h1 hc hn rfl (fun _ _ z => by cases z) q1 q2) q3 (ai_oks (ai_ok_ref (by simp [ai_new, ai_upd])) (ai_oksN (ai_okt hst))) (fun b z => ai_new_some z) (on rfl) (by show cells + 1 + h.2.2.1 = cells + (h.2.2.1 + 1); omega) (by show slots + n.toNatClampNeg + h.2.2.2 = slots + (h.2.2.2 + n.toNatClampNeg); omega)
        rw [List.map_cons, hq, ai_vs_ext hle (ai_okt hst)] at this
        exact this
      · cases hp
    · cases hp
  case checkcast idx =>
    simp only [ai_heap] at hp
    split at hp
    · cases hp
      exact lv_castN hx hb hd (k ρ H locs cells slots ai_le_refl hR0 hS hst (fun _ z => z) (fun _ _ z => z) rfl rfl)
    · split at hp
      · rename_i a r _ cj fs ha
        split at hp
        · rename_i hc2
          cases hp
          subst hc2
          obtain ⟨C, T, N, g1, g2⟩ := hok
          obtain ⟨j, -, hj⟩ := ai_R.idx (D := D) (cl := cl) (dA := dA) (ρ := ρ) h1 ha rfl
          exact va_castS hx hb hown (hts _ g2) (hK.1 _ _ g1).2 (va_recv hK hP g1 hj) hd (k ρ H locs cells slots ai_le_refl hR0 hS hst (fun _ z => z) (fun _ _ z => z) rfl rfl)
        · cases hp
      · cases hp
    · cases hp
  all_goals (simp [ai_heap] at hp)
end AI3
end
section
/-! A call: what the callee's promise gives at the caller's frame. A promise speaks of both ends, answer and throw; L, mc, ms: what was written, how much was made. -/
def ai_End (B : Nat → Prop) (mc ms : Nat) (Qr : State → Option Value → State → Prop) (Qt : State → Addr → State → Prop) : Array Value → State → Outcome → State → Prop := fun _ st o t =>
  ∃ L : List Loc, (∀ z ∈ L, B z.base) ∧ st.WarmedH t.vm ∧ st.sameButNew ({ t with vm := st.vm } : State) L mc ms ∧ ((∃ v, o = .returned v ∧ Qr st v t) ∨ ∃ q, o = .threw q ∧ Qt st q t)
def ai_Met (l : Launch) (y : MethodName) (Ts : List Cond) (rm : Room) (Pc : Array Value → State → Prop) (B : Nat → Prop) (Qr : State → Option Value → State → Prop) (Qt : State → Addr → State → Prop) : Prop :=
  MetFree l y (headSpec Ts rm) Pc (fun _ _ _ _ _ => True) (ai_End B rm.cells rm.slots Qr Qt)
/-- where the method's code is found, ready to run -/
def ai_Code (U : State) (mk : MethodId) (maxL : Nat) : Prop := ∃ (methY : Method) (cY : Code) (kY : Class), U.vm.method? mk = some methY ∧ methY.code = some cY ∧ cY.maxLocals = maxL ∧ U.vm.classes[mk.cls]? = some kY ∧ kY.init = .initialized
section AIE
variable {p : Program} {l : Launch} {e : Env} {R : Room} {s : State} {m : MethodId} {args : Array Value} {below : List Frame} {meth : Method} {c : Code} {U : State} {locs : List Loc} {cells slots : Nat}
set_option maxHeartbeats 2000000 in
theorem ai_enter {y : MethodName} {Ts : List Cond} {rm : Room} {Pc : Array Value → State → Prop} {B : Nat → Prop} {Qr : State → Option Value → State → Prop} {Qt : State → Addr → State → Prop} (hM : ai_Met l y Ts rm Pc B Qr Qt)
    (X : Stand p l e R s m args below meth c U locs cells slots) {g : JFrame} (hg : g.method = m) (hsize : g.locals.size = c.maxLocals) {ig : Instr} {len : Nat} (hdg : decode c.code g.pc = .ok (ig, len))
    (hW : 2 * g.monitorRoom + (g.stack.map fun v => v.category).sum ≤ 8) {mk : MethodId} {maxL : Nat} (hn : U.methodNamed? y = some mk) (hY : ai_Code U mk maxL) {a : Array Value} (hpre : ∀ w ∈ Ts, w.before a U = true) (hPc : Pc a (U.calling g mk a))
    (hframes : rm.frames + 1 ≤ R.frames) (hlocals : 8 + (maxL + 11) + rm.locals ≤ R.locals) (hrc : cells + rm.cells ≤ R.cells) (hrs : slots + rm.slots ≤ R.slots) :
    ∃ (T' t st₀ : State) (L : List Loc), st₀.heap = U.heap ∧ st₀.vm = U.vm ∧ T'.heap = t.heap ∧ T'.vm = t.vm ∧ (∀ z ∈ L, B z.base) ∧ Stand p l e R s m args below meth c T' (locs ++ L) (cells + rm.cells) (slots + rm.slots) ∧
      ((∃ v, Qr st₀ v t ∧ Steps p.tables e below (doInvoke e (U.setTop g) [] mk a).1 (T'.setTop { g with pc := g.pc + len, stack := v.toList ++ g.stack })) ∨
       ∃ q, Qt st₀ q t ∧ Steps p.tables e below (doInvoke e (U.setTop g) [] mk a).1 ((T'.setTop g).pushFrame (.throwing q))) := by
  subst hg
  obtain ⟨methY, cY, kY, hmY, hcY, hlY, hkY, hiY⟩ := hY
  have h : At U g.method c below := X.here
  have happ : (headSpec Ts rm).appliesLoose y e.platform (U.calling g mk a) = true :=
    Spec.appliesLoose_calling (g := g) h hdg hn hkY hiY (X.room_calling (g := g) (R' := rm) hsize hmY hcY hframes (by rw [hlY]; omega) hrc hrs) (atoms_intro hpre)
  obtain ⟨mid, hmid⟩ := h.above
  have hfr : (U.setTop g).frames = (.java g :: mid) ++ below := by rw [State.frames_setTop' g h.top, hmid]; rfl
  obtain ⟨o, t, hsteps, -, hend, hq⟩ := Steps.callFree hM p X.admits X.cas X.clock (acts := []) hfr happ hPc trivial
  have hq : ai_End B rm.cells rm.slots Qr Qt a (U.calling g mk a) o t := hq
  rw [State.frames_setTop' g h.top] at hend
  obtain ⟨L, hL, hWt, hsm, hout⟩ := hq
  obtain ⟨e2, q2, q3, q4, q5, q6⟩ := id hsm
  have hWU : U.WarmedH t.vm := hWt
  obtain ⟨g₀, hg0⟩ := Option.isSome_iff_exists.mp h.top
  obtain ⟨r, hr⟩ := State.topJava?_eq_some.mp hg0
  obtain ⟨T', hT'⟩ : ∃ z : State, z = ({ U with heap := t.heap, slotsUsed := t.slotsUsed } : State).setVm t.vm := ⟨_, rfl⟩
  have hr' : T'.frames = .java g₀ :: r := by rw [hT']; exact hr
  have e3 : t = ({ (U.calling g mk a).setFrames t.frames with heap := t.heap, slotsUsed := t.slotsUsed } : State).setVm t.vm := by
    have z : t = ({ t with vm := (U.calling g mk a).vm } : State).setVm t.vm := rfl
    rw [e2] at z
    exact z
  have hsame : U.sameButNew ({ U with heap := t.heap, slotsUsed := t.slotsUsed } : State) L rm.cells rm.slots := by
    refine ⟨?_, q2, q3, q4, q5, q6⟩
    obtain ⟨th, hth, -⟩ := State.frames_cons hr
    show ({ U with heap := t.heap, slotsUsed := t.slotsUsed } : State) = { U.setFrames U.frames with heap := t.heap, slotsUsed := t.slotsUsed }
    rw [State.setFrames_self hth]
  have XT : Stand p l e R s g.method args below meth c T' (locs ++ L) (cells + rm.cells) (slots + rm.slots) := by
    rw [hT']
    exact ⟨X.admits, X.cas, X.clock, X.frames, X.room, X.hears, X.method, X.code, (X.here.setHeapUsed t.heap t.slotsUsed).setVm hWU.alike, X.tail, State.WarmedH.trans X.warmed hWU, X.limits, X.bytes, X.same.trans (hsame.setVm s.vm)⟩
  refine ⟨T', t, U.calling g mk a, L, rfl, rfl, by rw [hT']; rfl, by rw [hT']; rfl, hL, XT, ?_⟩
  rcases hout with ⟨v, rfl, hv⟩ | ⟨q, rfl, hv⟩
  · refine Or.inl ⟨v, hv, ?_⟩
    obtain ⟨c₂, i₂, len₂, hc₂, hd₂, hf₂⟩ := hend
    have hcc : c₂ = c := by
      have z : t.code? g.method = U.code? g.method := by rw [State.code?_eq, State.code?_eq, hWU.alike.method?]
      exact Option.some.inj (hc₂.symm.trans (z.trans h.code))
    subst hcc
    have hlen : len₂ = len := by rw [hdg] at hd₂; cases hd₂; rfl
    subst hlen
    have hs₂ : t = T'.setTop { g with pc := g.pc + len₂, stack := v.toList ++ g.stack } := by
      refine e3.trans ?_
      rw [hf₂, State.calling_eq h.top, State.setFrames_setFrames, State.setTop_of_frames _ hr', hT', hr]
      rfl
    rw [← hs₂]
    exact hsteps
  · refine Or.inr ⟨q, hv, ?_⟩
    have hf₂ : t.frames = .throwing q :: .java g :: U.frames.tail := hend
    have hs₂ : t = (T'.setTop g).pushFrame (.throwing q) := by
      refine e3.trans ?_
      rw [hf₂, State.calling_eq h.top, State.setFrames_setFrames, State.pushFrame, State.frames_setTop _ hr', State.setTop_of_frames _ hr', State.setFrames_setFrames, hT', hr]
      rfl
    rw [← hs₂]
    exact hsteps
end AIE
end
section
/-! Exceptions: made and thrown at once; passed on; caught. -/
/-- a static field of references: where it lies (below b), what it holds -/
def ai_Sw (C n d : String) (b : Nat) (U : State) : Prop := ∃ (c : ClassId) (k : Class) (i : Nat) (f : Field) (a : Nat) (cell : Cell) (v : Value), U.vm.findClass C = some c ∧ U.fieldFound? C n d = some (c, k, i, f) ∧ f.isStatic = true ∧ k.statics = some a ∧ U.heap[a]? = some cell ∧ cell.vm.isStatics = true ∧ cell.cls = c ∧ f.slot < cell.slots.size ∧ k.staticTypes[f.slot]? = some f.type ∧ a < b ∧ cell.slots[f.slot]? = some v ∧ v.isRef = true
theorem ai_Sw.moved {C n d : String} {b : Nat} {u U : State} (hvm : u.vm.Alike U.vm) (hh : ∀ q, q < b → U.heap[q]? = u.heap[q]?) (h : ai_Sw C n d b u) : ai_Sw C n d b U := by
  obtain ⟨c, k, i, f, a, cell, v, h1, h2, h3, h4, h5, h6, h7, h8, h9, h10, h11, h12⟩ := h
  obtain ⟨k', hi', he⟩ := State.fieldFound?_setVm hvm h2
  exact ⟨c, k', i, f, a, cell, v, by rw [hvm.findClass]; exact h1, hi', h3, by rw [he]; exact h4, by rw [hh a h10]; exact h5, h6, h7, h8, by rw [he]; exact h9, h10, h11, h12⟩
theorem ai_Sw.lays {C n d : String} {b : Nat} {s : State} {args : Array Value} (h : ai_Sw C n d b s) : (Cond.laysStatic C n d).before args s = true := by
  obtain ⟨c, k, i, f, a, cell, v, h1, h2, h3, h4, h5, h6, h7, h8, h9, -⟩ := h
  show (Cond.laysStatic C n d).holds args s none s [] = true
  exact Cond.laysStatic_of h1 h2 h3 h4 h5 h6 h7 h8 h9
theorem ai_Sw.ref {C n d : String} {b : Nat} {s : State} {args : Array Value} (h : ai_Sw C n d b s) : (Cond.isRef (.static C n d)).before args s = true := by
  obtain ⟨c, k, i, f, a, cell, v, h1, h2, h3, h4, h5, h6, h7, h8, h9, h10, h11, h12⟩ := h
  have he : (Term.static C n d).eval args s none [] s = some v := by
    simp [Term.eval, State.fieldNamed?, h2, h3, h4, h5, h6, h11]
  simp only [Cond.before, Cond.holds, Cond.value, he]
  cases v <;> simp_all [Value.isRef]
theorem ai_Sw.of {C n d : String} {s : State} {args : Array Value} (hl : (Cond.laysStatic C n d).before args s = true) (hr : (Cond.isRef (.static C n d)).before args s = true) : ai_Sw C n d s.heap.size s := by
  obtain ⟨c, k, i, f, a, cell, h1, h2, h3, h4, h5, h6, h7, h8, h9⟩ := Cond.laysStatic_spec hl
  obtain ⟨v, hv⟩ : ∃ v, cell.slots[f.slot]? = some v := ⟨_, Array.getElem?_eq_getElem h8⟩
  have he : (Term.static C n d).eval args s none [] s = some v := by
    simp [Term.eval, State.fieldNamed?, h2, h3, h4, h5, h6, hv]
  refine ⟨c, k, i, f, a, cell, v, h1, h2, h3, h4, h5, h6, h7, h8, h9, (Array.getElem?_eq_some_iff.mp h5).1, hv, ?_⟩
  simp only [Cond.before, Cond.holds, Cond.value, he] at hr
  cases v <;> simp_all [Value.isRef]
section AIT
variable {p : Program} {l : Launch} {e : Env} {R : Room} {s : State} {m : MethodId} {args : Array Value} {below : List Frame} {meth : Method} {c : Code} {T : State} {H : Heap} {locs : List Loc} {cells slots : Nat} {Q : State → Prop}
/-- the frame as if the method had been called just here -/
theorem ai_anew (X : Stand p l e R s m args below meth c T locs cells slots) {R' : Room} (hf : R'.frames ≤ R.frames) (hl : R'.locals ≤ R.locals) (hc : cells + R'.cells ≤ R.cells) (hs : slots + R'.slots ≤ R.slots) :
    Stand p l e R' ((T.setVm s.vm).setFrames (.invoking m args :: below)) m args below meth c T [] 0 0 := by
  obtain ⟨g₀, hfr⟩ := X.frames_eq
  have hcur : (T.setVm s.vm).cur < (T.setVm s.vm).threads.size := State.cur_lt_of_frames (s := T.setVm s.vm) hfr
  have hF : ((T.setVm s.vm).setFrames (.invoking m args :: below)).frames = .invoking m args :: below := State.frames_setFrames _ hcur
  obtain ⟨th, hth, -⟩ := State.frames_cons (s := T.setVm s.vm) hfr
  have hlim : e.platform.stackLimits (T.setVm s.vm).me = e.platform.stackLimits s.me := X.limits
  have hby : (T.setVm s.vm).me.stackBytes = s.me.stackBytes := X.bytes
  refine { admits := X.admits, cas := X.cas, clock := X.clock, frames := hF, room := ?_, hears := X.hears, method := X.method, code := X.code, here := X.here, tail := X.tail, warmed := X.warmed, limits := ?_, bytes := ?_, same := ?_ }
  · have hu : ((T.setVm s.vm).setFrames (.invoking m args :: below)).localsInUse = s.localsInUse := by
      rw [State.localsInUse_invoking hF (meth := meth) (c := c) X.method X.code, State.localsInUse_invoking X.frames X.method X.code]
    have z := X.room
    simp only [State.hasRoom, Bool.and_eq_true, decide_eq_true_eq] at z ⊢
    obtain ⟨⟨⟨⟨h1, h2, h3, h4, h5, h6⟩, h7⟩, h8⟩, h9⟩ := z
    rw [X.frames, List.length_cons] at h2 h3
    have q1 := X.heapSize
    have q2 := X.used
    simp only [hF, hu, List.length_cons, State.stackLimits_setFrames, State.stackBytes_setFrames, hlim, hby]
    refine ⟨⟨⟨⟨by omega, by omega, by omega, by omega, by omega, h6⟩, ?_⟩, ?_⟩, X.book⟩
    · show T.heap.size + R'.cells ≤ e.platform.maxCells
      omega
    · show T.slotsUsed + R'.slots ≤ e.platform.maxSlots
      omega
  · rw [State.stackLimits_setFrames]; rfl
  · rw [State.stackBytes_setFrames]; rfl
  · have hz := (State.sameButNew.refl (T.setVm s.vm) hth)
    refine ⟨?_, hz.2⟩
    show T.setVm s.vm = { ((T.setVm s.vm).setFrames (.invoking m args :: below)).setFrames (T.setVm s.vm).frames with heap := T.heap, slotsUsed := T.slotsUsed }
    rw [State.setFrames_setFrames, State.setFrames_self hth]
    rfl
theorem ai_kept {U : State} {k n : Nat} (h : s.sameButNew ({ U with vm := s.vm } : State) [] k n) : s.heap.size ≤ U.heap.size ∧ ∀ q : Nat, q < s.heap.size → U.heap[q]? = s.heap[q]? := by
  obtain ⟨-, h2, -, -, -, h6⟩ := h
  refine ⟨h2, fun q hq => ?_⟩
  obtain ⟨x, e1, e2, e3, e4⟩ := h6 q _ (Array.getElem?_eq_getElem hq)
  have hs : x.slots = (s.heap[q]).slots := Array.ext_getElem? fun i => e4 i (fun z => (nomatch z))
  have h9 : x = s.heap[q] := by
    rw [hs] at e2
    exact e2
  have e5 : U.heap[q]? = some x := e1
  rw [e5, h9, Array.getElem?_eq_getElem hq]
/-- the words of a throw that the tables alone decide -/
def ai_xt (w : Cond) : Bool := decide (w ≠ .isRef (.static Bundle.tN "UNASSIGNED_STACK" Bundle.steD)) && decide (w ≠ .isRef (.static Bundle.tN "SUPPRESSED_SENTINEL" Bundle.listD)) && decide (w ≠ .laysStatic Bundle.tN "UNASSIGNED_STACK" Bundle.steD) && decide (w ≠ .laysStatic Bundle.tN "SUPPRESSED_SENTINEL" Bundle.listD)
/-- what the row of a throw must keep: E the class, ns the classes between it and Throwable -/
def ai_tok (Ts : List Cond) (own E : String) (ns : List String) (ik ic : Nat) : Prop := Bundle.fit E = true ∧ (∀ n ∈ ns, Bundle.fit n = true) ∧ ∀ w ∈ Cond.classLink own ik E :: Cond.initialized E :: (Bundle.ownAtoms0 own ic E ns).filter ai_xt, w ∈ Ts ∧ w.onTables = true
set_option maxHeartbeats 2000000 in
theorem ai_throw_W {cc : ByteArray} {pc : Nat} {lsA : Array Slot} {rest : List Value} {Ts : List Cond} {b : Nat} (hx : p.tables.exec = Jvm.exec) (hb : c.code = cc) (hl : l.stackTraces = false) {own E : String} {ns : List String} {ik ic : Nat}
    (hown : s.vm.findClass own = some m.cls) (hts : ∀ w ∈ Ts, w.before args s = true) (hok : ai_tok Ts own E ns ik ic)
    (hU : ai_Sw Bundle.tN "UNASSIGNED_STACK" Bundle.steD b s) (hN : ai_Sw Bundle.tN "SUPPRESSED_SENTINEL" Bundle.listD b s) (hH : ∀ q, q < b → H[q]? = s.heap[q]?) (hsize : lsA.size = c.maxLocals)
    (d0 : decode cc pc = .ok (.new ik, 3)) (d3 : decode cc (pc + 3) = .ok (.dup, 1)) (d4 : decode cc (pc + 4) = .ok (.invokespecial ic, 3)) (d7 : decode cc (pc + 7) = .ok (.athrow, 1))
    (hout : ∀ x ∈ c.exceptionTable.toList, covers x (pc + 7) = false) (hlocks : meth.locks = false)
    (hRf : ns.length + 3 < R.frames) (hRl : (rest.map fun v => v.category).sum + (13 * (ns.length + 1) + 42) ≤ R.locals) (hRc : cells + 1 ≤ R.cells) (hRs : slots + 6 ≤ R.slots)
    (k : ∀ (t : State) (q : Addr) (ce : Cell), t.status = .running → Ended t below (.threw q) → s.WarmedH t.vm → s.sameButNew ({ t with vm := s.vm } : State) locs (cells + 1) (slots + 6) → H.size ≤ t.heap.size → (∀ a, a < H.size → t.heap[a]? = H[a]?) → t.heap[q]? = some ce → ce.vm = .none → s.vm.findClass E = some ce.cls → Q t) :
    W p l e R s m args below meth c H locs cells slots Q (F0 m pc lsA rest) := by
  intro T hT X
  obtain ⟨hfE, hfn, hws⟩ := hok
  have htr : e.platform.stackTraces = false := (show e.platform.stackTraces = l.stackTraces by rw [X.admits.platform]).trans hl
  have Y := ai_anew X (R' := { frames := R.frames, locals := R.locals, cells := 1, slots := 6 }) (Nat.le_refl _) (Nat.le_refl _) hRc hRs
  obtain ⟨s', hs'⟩ : ∃ z, z = (T.setVm s.vm).setFrames (.invoking m args :: below) := ⟨_, rfl⟩
  rw [← hs'] at Y
  have hvm : s.vm = s'.vm := by rw [hs']; rfl
  have hhp : s'.heap = H := by rw [hs']; exact hT
  have hW0 : s.WarmedH s'.vm := by rw [← hvm]; exact State.WarmedH.refl s
  have hw : ∀ w ∈ Cond.classLink own ik E :: Cond.initialized E :: (Bundle.ownAtoms0 own ic E ns).filter ai_xt, w.before args s' = true := fun w hw => va_tabs (hws w hw).2 hvm (hts w (hws w hw).1)
  have hk' : (Cond.classLink own ik E).before args s' = true := hw _ List.mem_cons_self
  have hini' : (Cond.initialized E).before args s' = true := hw _ (List.mem_cons_of_mem _ List.mem_cons_self)
  have hU' : ai_Sw Bundle.tN "UNASSIGNED_STACK" Bundle.steD b s' := hU.moved hW0.alike (fun q hq => by rw [hhp]; exact hH q hq)
  have hN' : ai_Sw Bundle.tN "SUPPRESSED_SENTINEL" Bundle.listD b s' := hN.moved hW0.alike (fun q hq => by rw [hhp]; exact hH q hq)
  have hall : ∀ w ∈ Bundle.ownAtoms0 own ic E ns, w.before args s' = true := by
    intro w hw1
    by_cases g : ai_xt w = true
    · exact hw w (List.mem_cons_of_mem _ (List.mem_cons_of_mem _ (List.mem_filter.mpr ⟨hw1, g⟩)))
    · by_cases e1 : w = .isRef (.static Bundle.tN "UNASSIGNED_STACK" Bundle.steD)
      · rw [e1]; exact hU'.ref
      · by_cases e2 : w = .isRef (.static Bundle.tN "SUPPRESSED_SENTINEL" Bundle.listD)
        · rw [e2]; exact hN'.ref
        · by_cases e3 : w = .laysStatic Bundle.tN "UNASSIGNED_STACK" Bundle.steD
          · rw [e3]; exact hU'.lays
          · by_cases e4 : w = .laysStatic Bundle.tN "SUPPRESSED_SENTINEL" Bundle.listD
            · rw [e4]; exact hN'.lays
            · exact absurd (by unfold ai_xt; rw [decide_eq_true e1, decide_eq_true e2, decide_eq_true e3, decide_eq_true e4]; rfl) g
  have hown' : s'.vm.findClass own = some m.cls := by rw [← hvm]; exact hown
  have hins : (Cond.instantiable E 6).before args s' = true := hall _ (by simp [Bundle.ownAtoms0])
  obtain ⟨vm₁, cX, kX, hfX, hkX, -, -, X₁, st1⟩ := Y.newCold hx (own := own) (C := E) (index := ik) (n := 6) hown' hk' hins hini' (g := F0 m pc lsA rest) rfl (by rw [hb]; exact d0) (Nat.le_refl _) (Nat.le_refl _)
  generalize hT1 : (T.setVm vm₁).pushCell { cls := cX, slots := kX.instanceTypes.map defaultValue, vm := .none } = T1 at X₁ st1
  have hcell : T1.heap[T.heap.size]? = some (freshCell cX kX) := by rw [← hT1]; exact State.heap_pushCell_size _ _
  have d3' : decode c.code (pc + 3) = .ok (.dup, 1) := by rw [hb]; exact d3
  have hcat : (Value.ref T.heap.size).category = 1 := rfl
  obtain ⟨U, hsteps, hrun, hend, hWU, hsame, ce, hce, hO⟩ := X₁.ctorThrow0 hx htr (own := own) (cls := E) (names := ns) (ic := ic) hown' hfE hfn hall (fun x hx => (nomatch hx)) hfX hkX hcell (by rw [hhp, hT]; exact Nat.le_refl _)
    (g := { method := m, pc := pc + 4, locals := lsA, stack := .ref T.heap.size :: .ref T.heap.size :: rest, locked := none }) rfl hsize rfl rfl (rest := rest) rfl
    (by rw [hb]; exact d4) (by rw [hb]; exact d7) hout hRf (by simp only [List.map_cons, List.sum_cons, hcat]; omega) hlocks
  obtain ⟨f1, f2⟩ := ai_kept hsame
  rw [hhp] at f1 f2
  have hfull : s.sameButNew ({ U with vm := s.vm } : State) locs (cells + 1) (slots + 6) := by
    subst hs'
    obtain ⟨e1, e2⟩ := hsame
    rw [State.setFrames_setFrames] at e1
    have h2 : (T.setVm s.vm).sameButNew ({ U with vm := s.vm } : State) [] (0 + 1) (0 + 6) := ⟨e1, e2⟩
    have h3 := X.same.trans h2
    rw [List.append_nil] at h3
    exact h3
  refine ⟨U, st1 _ ?_, k U T.heap.size ce hrun hend (State.WarmedH.trans hW0 hWU) hfull f1 f2 hce hO.vm (by have := hO.cls; rw [← hvm] at this; exact this)⟩
  show Steps p.tables e below (T1.setTop { method := m, pc := pc + 3, locals := lsA, stack := .ref T.heap.size :: rest, locked := none }) _
  jvm_step X₁.here [X₁.here.top, hx, d3', Value.category]
  exact hsteps
/-- rows of a method's table: (from, to, handler, catch type); which takes E at pc: names gives the classes of the catch types -/
def ai_row (own E : String) (args : Array Value) (s : State) (pc : Nat) (x : ExceptionTableEntry) (takes : Bool) : Prop :=
  x.catchType ≠ 0 ∧ ∃ nm : String, (Cond.classLink own x.catchType nm).before args s = true ∧ ∃ cE cN : ClassId, s.vm.findClass E = some cE ∧ s.vm.findClass nm = some cN ∧ s.vm.assignable cE cN = takes
theorem ai_go1 {e : Env} {S : State} {f : JFrame} {a : Addr} {x : ExceptionTableEntry} {t : List ExceptionTableEntry} {cN : ClassId} {cell : Cell} {b : Bool} (hx : covers x f.pc = true) (h0 : x.catchType ≠ 0)
    (hl : S.vm.ClassLinks e.platform f.method.cls x.catchType cN) (hcell : S.heap[a]? = some cell) (hobj : ∀ k, cell.vm ≠ .statics k)
    (hk : ∃ k, S.vm.classes[cell.cls]? = some k) (hc : ∃ k, S.vm.classes[cN]? = some k) (hb : S.vm.assignable cell.cls cN = b) (Q : Handler → Pre) (E : CtlPost) (d : Bool) (acts : List Action) :
    wp (findHandler.go f a (x :: t)) Q E e d acts S ↔ if b = true then Q (.found x.handlerPc) d acts (S.setVm (S.vm.noted f.method.cls x.catchType (.cls cN))) else wp (findHandler.go f a t) Q E e d acts (S.setVm (S.vm.noted f.method.cls x.catchType (.cls cN))) := by
  simp only [covers] at hx
  obtain ⟨ha, ht⟩ := (resolveClass_links e.toSetting hl).op (op := VmOp.resolveClass f.method.cls x.catchType) rfl
  have hal : S.vm.Alike (S.vm.noted f.method.cls x.catchType (.cls cN)) := (Vm.Alike.refl S.vm).noted _ _ _
  obtain ⟨k1, hk1⟩ := hk
  obtain ⟨k2, hk2⟩ := hc
  obtain ⟨k1', hk1', -⟩ := hal.2.2 _ _ hk1
  obtain ⟨k2', hk2', -⟩ := hal.2.2 _ _ hk2
  have hb' : (S.vm.noted f.method.cls x.catchType (.cls cN)).assignable cell.cls cN = b := by rw [hal.assignable]; exact hb
  cases b <;> simp [findHandler.go, hx, h0, ha, ht, hcell, hobj, hk1', hk2', hb', VmOp.dirties, VmOp.acts]
/-- the search, through rows that don't take E, to one that does -/
theorem ai_go {own E : String} (hown : s.vm.findClass own = some m.cls) {f : JFrame} (hf : f.method = m) {a : Addr} {cell : Cell} (hobj : ∀ k, cell.vm ≠ .statics k) (hE : s.vm.findClass E = some cell.cls) (hpl : e.platform.magicAccessors = ({} : Platform).magicAccessors)
    (x : ExceptionTableEntry) (rest : List ExceptionTableEntry) (hx : covers x f.pc = true) (hxr : ai_row own E args s f.pc x true) :
    ∀ (pre : List ExceptionTableEntry) (S : State), s.WarmedH S.vm → S.heap[a]? = some cell → (∀ z ∈ pre, covers z f.pc = false ∨ ai_row own E args s f.pc z false) →
      ∃ vm', s.WarmedH vm' ∧ ∀ (Q : Handler → Pre) (E : CtlPost) (d : Bool) (acts : List Action), wp (findHandler.go f a (pre ++ x :: rest)) Q E e d acts S ↔ Q (.found x.handlerPc) d acts (S.setVm vm') := by
  have one : ∀ (z : ExceptionTableEntry) (bb : Bool) (S : State) (ys : List ExceptionTableEntry), covers z f.pc = true → ai_row own E args s f.pc z bb → s.WarmedH S.vm → S.heap[a]? = some cell →
      ∃ vm1, s.WarmedH vm1 ∧ ∀ (Q : Handler → Pre) (E : CtlPost) (d : Bool) (acts : List Action), wp (findHandler.go f a (z :: ys)) Q E e d acts S ↔ if bb = true then Q (.found z.handlerPc) d acts (S.setVm vm1) else wp (findHandler.go f a ys) Q E e d acts (S.setVm vm1) := by
    intro z bb S ys hz ⟨h0, nm, hlk, cE, cN, h1, h2, h3⟩ hW hc
    cases hE.symm.trans h1
    obtain ⟨c5, hc5, hcl⟩ := Cond.classLink_spec hown hlk e.platform hpl
    cases h2.symm.trans hc5
    obtain ⟨dk, _, _, kt, hd, _, _, _, _, hkt, _, hopen⟩ := hcl.here
    obtain ⟨kt', hkt', -⟩ := hW.alike.2.2 _ _ hkt
    obtain ⟨k0, hk0, -⟩ := Vm.findClass_spec hE
    obtain ⟨k0', hk0', -⟩ := hW.alike.2.2 _ _ hk0
    subst hf
    exact ⟨_, hW.noted hd hopen (State.rightAt_cls hcl), ai_go1 hz h0 (hW.classLinks hcl) hc hobj ⟨k0', hk0'⟩ ⟨kt', hkt'⟩ (by rw [hW.alike.assignable]; exact h3)⟩
  intro pre
  induction pre with
  | nil =>
    intro S hW hc _
    obtain ⟨vm1, hW1, hq⟩ := one x true S rest hx hxr hW hc
    exact ⟨vm1, hW1, fun Q E d acts => by rw [List.nil_append, hq]; simp⟩
  | cons z ys ih =>
    intro S hW hc hp
    by_cases hcov : covers z f.pc = true
    · rcases hp z List.mem_cons_self with hno | hrow
      · rw [hno] at hcov; cases hcov
      · obtain ⟨vm1, hW1, hq⟩ := one z false S (ys ++ x :: rest) hcov hrow hW hc
        obtain ⟨vm2, hW2, hq2⟩ := ih (S.setVm vm1) hW1 hc (fun w hw => hp w (List.mem_cons_of_mem _ hw))
        exact ⟨vm2, hW2, fun Q E d acts => by rw [List.cons_append, hq, if_neg (by decide)]; exact hq2 Q E d acts⟩
    · obtain ⟨vm2, hW2, hq2⟩ := ih S hW hc (fun w hw => hp w (List.mem_cons_of_mem _ hw))
      exact ⟨vm2, hW2, fun Q E d acts => by rw [List.cons_append, W.findHandler_go_skip (by simpa using hcov)]; exact hq2 Q E d acts⟩
/-- caught: the frame goes on at the handler, the exception alone on its stack -/
theorem ai_catch (X : Stand p l e R s m args below meth c T locs cells slots) {own E : String} (hown : s.vm.findClass own = some m.cls) {g : JFrame} (hg : g.method = m) {a : Addr} {cell : Cell} (hcell : T.heap[a]? = some cell) (hv : cell.vm = .none) (hE : s.vm.findClass E = some cell.cls)
    (pre : List ExceptionTableEntry) (x : ExceptionTableEntry) (rest : List ExceptionTableEntry) (hsplit : c.exceptionTable.toList = pre ++ x :: rest) (hpre : ∀ z ∈ pre, covers z g.pc = false ∨ ai_row own E args s g.pc z false) (hx : covers x g.pc = true) (hxr : ai_row own E args s g.pc x true) :
    ∃ vm', Stand p l e R s m args below meth c (T.setVm vm') locs cells slots ∧ ∀ target, Steps p.tables e below ((T.setVm vm').setTop { g with pc := x.handlerPc, stack := [.ref a] }) target → Steps p.tables e below ((T.setTop g).pushFrame (.throwing a)) target := by
  subst hg
  have hpl : e.platform.magicAccessors = ({} : Platform).magicAccessors := by rw [X.admits.platform]
  obtain ⟨vm', hW', hq⟩ := ai_go (e := e) hown (f := g) rfl (a := a) (cell := cell) (fun k z => by rw [hv] at z; cases z) hE hpl x rest hx hxr pre ((T.setTop g).pushFrame (.throwing a)) X.warmed hcell hpre
  refine ⟨vm', X.noted hW', fun target hrest => ?_⟩
  obtain ⟨hgo, hwi⟩ := X.here.throwing a
  refine Steps.head hgo hwi ?_
  have hstep : (stepThrowing e ((T.setTop g).pushFrame (.throwing a)) a (.java g :: T.frames.tail)).1 = (((T.setTop g).pushFrame (.throwing a)).setVm vm').setFrames (.java { g with pc := x.handlerPc, stack := [.ref a] } :: T.frames.tail) := by
    have hm9 : ((T.setTop g).pushFrame (.throwing a)).vm.method? g.method = some meth := X.method'
    have hF : ∀ (Q : Handler → Pre) (E : CtlPost) (d : Bool) (acts : List Action), wp (findHandler g a) Q E e d acts ((T.setTop g).pushFrame (.throwing a)) ↔ Q (.found x.handlerPc) d acts (((T.setTop g).pushFrame (.throwing a)).setVm vm') := fun Q E d acts => by
      rw [W.findHandler_eq hm9 X.code, hsplit]
      exact hq Q E d acts
    simp only [stepThrowing, searchFrame, vmDo]
    generalize hr : Sem.go _ e false [] ((T.setTop g).pushFrame (.throwing a)) = res
    obtain ⟨as, rfl, ha⟩ := Sem.eq_ok_of hr (a := Handler.found x.handlerPc) (s' := ((T.setTop g).pushFrame (.throwing a)).setVm vm') (acts' := []) (by simp [hF _ _ _ _])
    rfl
  rw [stepThread_throwing (frames_entered X.here.top _), hstep]
  obtain ⟨g₀, hfr⟩ := X.frames_eq
  have hr' : (T.setVm vm').frames = .java g₀ :: below := hfr
  rw [State.setTop_of_frames _ hr'] at hrest
  rw [X.tail]
  have e9 : (((T.setTop g).pushFrame (.throwing a)).setVm vm').setFrames (.java { g with pc := x.handlerPc, stack := [.ref a] } :: below) = (T.setVm vm').setFrames (.java { g with pc := x.handlerPc, stack := [.ref a] } :: below) := by
    rw [State.pushFrame, State.setTop_of_frames _ hfr, State.setFrames_setFrames]
    show (((T.setVm vm').setFrames _).setFrames _) = _
    rw [State.setFrames_setFrames]
  rw [e9]
  exact hrest
end AIT
end
section
/-! The run of a method. -/
/-- the program: its rows; the handlers (method, counter, class thrown); a method's locals and answer; the classes' first fields; the arrays' types; the fields' types; what an array of references takes -/
abbrev ai_P : Type := (Nat → Nat → Option ai_I) × (Nat → Nat → Nat → Option (Option Nat)) × (Nat → Nat × Option FieldType) × (Nat → List ai_V) × List FieldType × (Nat → Nat → FieldType) × (Nat → Nat → Bool)
def ai_ent : List ai_V → ai_L
  | [] => []
  | v :: vs => if ai_two v = true then some v :: none :: ai_ent vs else some v :: ai_ent vs
/-- an answer -/
def ai_ret (ins : Instr) (ret : Option FieldType) (st : List ai_V) : Option (Option ai_V) := match ins with
  | .return_ => match ret, st with
    | none, [] => some none
    | _, _ => none
  | .ireturn => match ret, st with
    | some ty, [.inl x] => if ai_fit ty (.inl x) = true then some (some (.inl x)) else none
    | _, _ => none
  | .areturn => match ret, st with
    | some (.object _), [.inr (.inr r)] => some (some (.inr (.inr r)))
    | some (.array _), [.inr (.inr r)] => some (some (.inr (.inr r)))
    | _, _ => none
  | _ => none
/-- a call's arguments and what stays on the stack -/
def ai_args (ins : Instr) (ks : List Nat) (st : List ai_V) (h : ai_H) : Option (List ai_V × List ai_V) :=
  if ks.getD 1 0 ≤ st.length ∧ ai_wt (st.drop (ks.getD 1 0)) ≤ 8 then
    match ins with
    | .invokestatic _ => some ((st.take (ks.getD 1 0)).reverse, st.drop (ks.getD 1 0))
    | .invokespecial _ => match (st.take (ks.getD 1 0)).reverse with
      | .inr (.inr (some a)) :: vs => some (.inr (.inr (some a)) :: vs, st.drop (ks.getD 1 0))
      | _ => none
    | .invokevirtual _ => match (st.take (ks.getD 1 0)).reverse with
      | .inr (.inr (some a)) :: vs => match h.1 a with
        | some (.inl (cj, _)) => if cj = ks.getD 2 0 then some (.inr (.inr (some a)) :: vs, st.drop (ks.getD 1 0)) else none
        | _ => none
      | _ => none
    | _ => none
  else none
/-- an exception that was caught: a thing of number 1 -/
def ai_exc (h : ai_H) : ai_H := (ai_upd h.1 (1, h.2.1 1) (.inr (.inr 1)), (fun j => if j = 1 then h.2.1 1 + 1 else h.2.1 j), h.2.2.1, h.2.2.2)
noncomputable def ai_run (P : ai_P) (L : Nat) (xs : Nat → Int32) (call : Nat → List ai_V → ai_H → Option (ai_O × ai_H)) (mi : Nat) : Nat → Nat → ai_L → List ai_V → ai_H → Option (ai_O × ai_H)
  | 0, _, _, _, _ => none
  | n + 1, pc, ls, st, h => match P.1 mi pc with
    | none => none
    | some (kd, ins, ks) => match kd with
      | 0 => match ai_pure ins st with
        | some st' => ai_run P L xs call mi n (pc + ai_len ins) ls st' h
        | none => none
      | 1 => match ai_jmp ins pc ks st with
        | some (pc', st') => ai_run P L xs call mi n pc' ls st' h
        | none => none
      | 2 => match ai_loc ins ls st with
        | some (ls', st') => ai_run P L xs call mi n (pc + ai_len ins) ls' st' h
        | none => none
      | 3 => match ai_heap P.2.2.2.1 (fun t => P.2.2.2.2.1.getD t .float) P.2.2.2.2.2.1 P.2.2.2.2.2.2 L xs ins ks st h with
        | some (st', h') => ai_run P L xs call mi n (pc + ai_len ins) ls st' h'
        | none => none
      | 4 => match ai_args ins ks st h with
        | some (av, r) => match call (ks.getD 0 0) av h with
          | some (.inl v, h') => ai_run P L xs call mi n (pc + 3) ls (v.toList ++ r) h'
          | some (.inr x, h') => match P.2.1 mi pc x with
            | some (some pc') => if (h'.1 (1, h'.2.1 1)).isNone = true then ai_run P L xs call mi n pc' ls [.inr (.inr (some (1, h'.2.1 1)))] (ai_exc h') else none
            | some none => some (.inr x, h')
            | none => none
          | none => none
        | none => none
      | 5 => match ai_ret ins (P.2.2.1 mi).2 st with
        | some v => some (.inl v, h)
        | none => none
      | 6 => if ai_wt st ≤ 8 then some (.inr (ks.getD 0 0), (h.1, h.2.1, h.2.2.1 + 1, h.2.2.2 + 6)) else none
      | 7 => match st with
        | .inr (.inr (some _)) :: r => if ai_wt r ≤ 8 then ai_run P L xs call mi n (pc + 3) ls r h else none
        | _ => none
      | 8 => match st with
        | .inl y :: .inl x :: r => if ai_wt r ≤ 8 then ai_run P L xs call mi n (pc + 3) ls (.inl (if x < y then y else x) :: r) h else none
        | _ => none
      | 9 => match st with
        | .inl y :: .inl x :: r => if ai_wt r ≤ 8 then ai_run P L xs call mi n (pc + 3) ls (.inl (if y < x then y else x) :: r) h else none
        | _ => none
      | 10 => match ai_ext (fun t => P.2.2.2.2.1.getD t .float) P.2.2.2.2.2.2 pc ks st h with
        | some (pc', st', h') => ai_run P L xs call mi n pc' ls st' h'
        | none => none
      | _ => none
noncomputable def ai_call (P : ai_P) (L : Nat) (xs : Nat → Int32) (N : Nat) : Nat → Nat → List ai_V → ai_H → Option (ai_O × ai_H)
  | 0, _, _, _ => none
  | d + 1, mi, av, h => if (ai_ent av).length ≤ (P.2.2.1 mi).1 then ai_run P L xs (ai_call P L xs N d) mi N 0 (ai_ent av ++ List.replicate ((P.2.2.1 mi).1 - (ai_ent av).length) none) [] h else none
/-- words that stay true: of the tables alone -/
def ai_good : Cond → Bool
  | .arrayClass _ => true
  | .arrayOver (.object _) => true
  | .fieldLinkNest _ _ _ _ _ _ => true
  | .methodLinkNest _ _ _ _ => true
  | .not (.castable _ _) => true
  | w => w.onTables && w.keepsFace
theorem ai_word {args a' : Array Value} {s U : State} {w : Cond} (hW : s.WarmedH U.vm) (hg : ai_good w = true) (h : w.before args s = true) : w.before a' U = true := by
  have gen : w.onTables = true → w.keepsFace = true → w.before a' U = true := fun h1 h2 =>
    va_tabs h1 (rfl : (s.setVm U.vm).vm = U.vm) (Cond.before_shiftedFace (State.Shifted.of_warmed hW) w h2 h)
  unfold ai_good at hg
  split at hg
  · exact word_at hW (Or.inr ⟨_, rfl⟩) h
  · exact va_AO.use (va_AO.moved hW.alike (va_AO.of h))
  · exact va_Nw.use rfl (va_Nw.warmF hW (va_Nw.of rfl h))
  · exact va_Nw.use rfl (va_Nw.warmM hW (va_Nw.of rfl h))
  · rename_i a b
    have h1 : (Cond.not (.castable a b)).before args (s.setVm U.vm) = true := Cond.castAtom_setVm hW.alike _ rfl h
    exact h1
  · simp only [Bool.and_eq_true] at hg
    exact gen hg.1 hg.2
theorem ai_heap_mono {dfl : Nat → List ai_V} {tyA : Nat → FieldType} {tyF : Nat → Nat → FieldType} {asg : Nat → Nat → Bool} {L : Nat} {xs : Nat → Int32} {ins : Instr} {ks : List Nat} {st st' : List ai_V} {h h' : ai_H} (hp : ai_heap dfl tyA tyF asg L xs ins ks st h = some (st', h')) : h.2.2.1 ≤ h'.2.2.1 ∧ h.2.2.2 ≤ h'.2.2.2 := by
  have same : h' = h → h.2.2.1 ≤ h'.2.2.1 ∧ h.2.2.2 ≤ h'.2.2.2 := fun z => by rw [z]; exact ⟨Nat.le_refl _, Nat.le_refl _⟩
  have put : ∀ a x, h' = ai_put h a x → h.2.2.1 ≤ h'.2.2.1 ∧ h.2.2.2 ≤ h'.2.2.2 := fun a x z => by rw [z]; exact ⟨Nat.le_refl _, Nat.le_refl _⟩
  have new : ∀ s x n, h' = ai_new h s x n → h.2.2.1 ≤ h'.2.2.1 ∧ h.2.2.2 ≤ h'.2.2.2 := fun s x n z => by rw [z]; exact ⟨Nat.le_succ _, Nat.le_add_right _ _⟩
  unfold ai_heap at hp
  repeat' split at hp
  all_goals first
    | (cases hp; done)
    | (cases hp; exact same rfl)
    | (cases hp; exact put _ _ rfl)
    | (cases hp; exact new _ _ _ rfl)
    | (obtain ⟨v, hv, hz⟩ := Option.map_eq_some_iff.mp hp; cases hz; exact same rfl)
theorem ai_ext_mono {tyA : Nat → FieldType} {asg : Nat → Nat → Bool} {pc pc' : Nat} {ks : List Nat} {st st' : List ai_V} {h h' : ai_H} (hp : ai_ext tyA asg pc ks st h = some (pc', st', h')) : h.2.2.1 ≤ h'.2.2.1 ∧ h.2.2.2 ≤ h'.2.2.2 := by
  have same : h' = h → h.2.2.1 ≤ h'.2.2.1 ∧ h.2.2.2 ≤ h'.2.2.2 := fun z => by rw [z]; exact ⟨Nat.le_refl _, Nat.le_refl _⟩
  have put : ∀ a x, h' = ai_put h a x → h.2.2.1 ≤ h'.2.2.1 ∧ h.2.2.2 ≤ h'.2.2.2 := fun a x z => by rw [z]; exact ⟨Nat.le_refl _, Nat.le_refl _⟩
  unfold ai_ext at hp
  repeat' split at hp
  all_goals first
    | (cases hp; done)
    | (cases hp; exact same rfl)
    | (cases hp; exact put _ _ rfl)
theorem ai_run_mono {P : ai_P} {L : Nat} {xs : Nat → Int32} {call : Nat → List ai_V → ai_H → Option (ai_O × ai_H)} (hcall : ∀ mi av h o h', call mi av h = some (o, h') → h.2.2.1 ≤ h'.2.2.1 ∧ h.2.2.2 ≤ h'.2.2.2) {mi : Nat} :
    ∀ n pc ls st h o h', ai_run P L xs call mi n pc ls st h = some (o, h') → h.2.2.1 ≤ h'.2.2.1 ∧ h.2.2.2 ≤ h'.2.2.2 := by
  intro n
  induction n with
  | zero => intro pc ls st h o h' hr; cases hr
  | succ n ih =>
    intro pc ls st h o h' hr
    unfold ai_run at hr
    split at hr
    · cases hr
    · split at hr
      · split at hr
        · exact ih _ _ _ _ _ _ hr
        · cases hr
      · split at hr
        · exact ih _ _ _ _ _ _ hr
        · cases hr
      · split at hr
        · exact ih _ _ _ _ _ _ hr
        · cases hr
      · split at hr
        · rename_i hh
          have h1 := ai_heap_mono hh
          have h2 := ih _ _ _ _ _ _ hr
          omega
        · cases hr
      · split at hr
        · split at hr
          · rename_i hh
            have h1 := hcall _ _ _ _ _ hh
            have h2 := ih _ _ _ _ _ _ hr
            omega
          · rename_i hh
            have h1 := hcall _ _ _ _ _ hh
            split at hr
            · split at hr
              · have h2 := ih _ _ _ _ _ _ hr
                simp only [ai_exc] at h2
                omega
              · cases hr
            · cases hr
              exact h1
            · cases hr
          · cases hr
        · cases hr
      · split at hr
        · cases hr
          exact ⟨Nat.le_refl _, Nat.le_refl _⟩
        · cases hr
      · split at hr
        · cases hr
          exact ⟨Nat.le_succ _, Nat.le_add_right _ _⟩
        · cases hr
      · split at hr
        · split at hr
          · exact ih _ _ _ _ _ _ hr
          · cases hr
        · cases hr
      · split at hr
        · split at hr
          · exact ih _ _ _ _ _ _ hr
          · cases hr
        · cases hr
      · split at hr
        · split at hr
          · exact ih _ _ _ _ _ _ hr
          · cases hr
        · cases hr
      · split at hr
        · rename_i hh
          have h1 := ai_ext_mono hh
          have h2 := ih _ _ _ _ _ _ hr
          omega
        · cases hr
      · cases hr
theorem ai_call_mono {P : ai_P} {L : Nat} {xs : Nat → Int32} {N : Nat} : ∀ d mi av h o h', ai_call P L xs N d mi av h = some (o, h') → h.2.2.1 ≤ h'.2.2.1 ∧ h.2.2.2 ≤ h'.2.2.2 := by
  intro d
  induction d with
  | zero => intro mi av h o h' hr; cases hr
  | succ d ih =>
    intro mi av h o h' hr
    unfold ai_call at hr
    split at hr
    · exact ai_run_mono ih _ _ _ _ _ _ _ hr
    · cases hr
end
section
/-! What calls must keep; the step that finds the callee. -/
abbrev ai_M : Type := Nat → Option (MethodName × ByteArray × List (Nat × Nat × Nat × Nat))
def ai_lnk (Ts : List Cond) (own : String) (idx : Nat) (y : MethodName) : Prop := Cond.methodLink own idx y ∈ Ts ∨ ∃ host, Cond.methodLinkNest own idx y host ∈ Ts
/-- a call's row: y the callee, n its parameters -/
def ai_iok (Ts : List Cond) (cl : List vw_C) (own : String) (y : MethodName) (n : Nat) (ins : Instr) (ks : List Nat) : Prop := match ins with
  | .invokestatic idx => ks.getD 1 0 = n ∧ Cond.static y ∈ Ts ∧ ai_lnk Ts own idx y
  | .invokespecial idx => ks.getD 1 0 = n + 1 ∧ y.name = "<init>" ∧ Cond.instanceMethod y ∈ Ts ∧ ai_lnk Ts own idx y
  | .invokevirtual idx => ks.getD 1 0 = n + 1 ∧ Cond.instanceMethod y ∈ Ts ∧ ai_lnk Ts own idx y ∧ ∃ (C : String) (T : u_T) (N : Nat), cl[ks.getD 2 0]? = some (C, T, N) ∧ Cond.selects C y y ∈ Ts
  | _ => False
theorem ai_args_spec {ins : Instr} {ks : List Nat} {st av r : List ai_V} {h : ai_H} (hp : ai_args ins ks st h = some (av, r)) : st = av.reverse ++ r ∧ av.length = ks.getD 1 0 ∧ ai_wt r ≤ 8 ∧ (∀ idx, ins = .invokespecial idx → ∃ a vs, av = .inr (.inr (some a)) :: vs) ∧ (∀ idx, ins = .invokevirtual idx → ∃ a vs fs, av = .inr (.inr (some a)) :: vs ∧ h.1 a = some (.inl (ks.getD 2 0, fs))) := by
  unfold ai_args at hp
  split at hp
  · rename_i hc
    obtain ⟨h1, h2⟩ := hc
    have base : ∀ {av r : List ai_V}, (st.take (ks.getD 1 0)).reverse = av → st.drop (ks.getD 1 0) = r → st = av.reverse ++ r ∧ av.length = ks.getD 1 0 ∧ ai_wt r ≤ 8 := by
      intro av r e1 e2
      subst e1; subst e2
      refine ⟨by rw [List.reverse_reverse, List.take_append_drop], by rw [List.length_reverse, List.length_take]; omega, h2⟩
    split at hp
    · cases hp
      obtain ⟨b1, b2, b3⟩ := base rfl rfl
      exact ⟨b1, b2, b3, fun _ z => (nomatch z), fun _ z => (nomatch z)⟩
    · split at hp
      · rename_i a vs hv
        cases hp
        obtain ⟨b1, b2, b3⟩ := base hv rfl
        exact ⟨b1, b2, b3, fun _ _ => ⟨a, vs, rfl⟩, fun _ z => (nomatch z)⟩
      · cases hp
    · split at hp
      · rename_i a vs hv
        split at hp
        · rename_i cj fs ha
          split at hp
          · rename_i hcj
            cases hp
            subst hcj
            obtain ⟨b1, b2, b3⟩ := base hv rfl
            exact ⟨b1, b2, b3, fun _ z => (nomatch z), fun _ _ => ⟨a, vs, fs, rfl, ha⟩⟩
          · cases hp
        · cases hp
      · cases hp
    · cases hp
  · cases hp
section AIL
variable {p : Program} {l : Launch} {e : Env} {R : Room} {s : State} {m : MethodId} {args : Array Value} {below : List Frame} {meth : Method} {c : Code} {T : State} {H : Heap} {locs : List Loc} {cells slots : Nat}
variable {cc : ByteArray} {pc : Nat} {lsA : Array Slot} {ρ : ai_A → Nat} {D : va_G} {cl : List vw_C} {dA : Nat → ClassId} {B : Nat → Prop} {h : ai_H} {Ts : List Cond} {own : String} {ks : List Nat}
/-- the callee's code, by its word -/
def ai_cw (Ts : List Cond) (y : MethodName) (cY : ByteArray) (maxL : Nat) (ret : Option FieldType) (hh : List (Nat × Nat × Nat × Nat)) : Prop := (hh = [] ∧ Cond.code y cY maxL ret ∈ Ts) ∨ Cond.codeWith y cY maxL ret hh ∈ Ts
theorem ai_cw_spec {U : State} {a : Array Value} {y : MethodName} {cY : ByteArray} {maxL : Nat} {ret : Option FieldType} {hh : List (Nat × Nat × Nat × Nat)} (hts : ∀ w ∈ Ts, w.before a U = true) (hw : ai_cw Ts y cY maxL ret hh) :
    ∃ mk methY cd, U.methodNamed? y = some mk ∧ U.vm.method? mk = some methY ∧ methY.code = some cd ∧ cd.code = cY ∧ cd.maxLocals = maxL ∧ cd.exceptionTable.toList.map (fun x => (x.startPc, x.endPc, x.handlerPc, x.catchType)) = hh ∧ methY.sig.returnType = ret ∧ methY.locks = false ∧ parseMethodDescriptor y.desc = some methY.sig := by
  rcases hw with ⟨rfl, hw⟩ | hw
  · obtain ⟨mk, hn⟩ := Cond.code_named (hts _ hw)
    obtain ⟨methY, cd, h1, h2, h3, h4, h5, h6, h7, h8⟩ := Cond.code_spec hn (hts _ hw)
    refine ⟨mk, methY, cd, hn, h1, h2, h3, h4, ?_, h5, h6, h8⟩
    have : cd.exceptionTable.toList = [] := by simpa using h7
    rw [this]
    rfl
  · obtain ⟨mk, methY, cd, hn, h1, h2, h3, h4, h5, h6, h7, h8⟩ := Cond.codeWith_spec (hts _ hw)
    exact ⟨mk, methY, cd, hn, h1, h2, h3, h4, h5, h6, h7, h8⟩
set_option maxHeartbeats 2000000 in
theorem ai_find (X : Stand p l e R s m args below meth c T locs cells slots) (hx : p.tables.exec = Jvm.exec) (hb : c.code = cc) (hts : ∀ w ∈ Ts, w.before args s = true) (hown : s.vm.findClass own = some m.cls) {tys : List (ClassId × FieldType)} (hK : va_K D cl tys s) (hT : T.heap = H) (hR : ai_R D cl dA B ρ h H)
    {y : MethodName} {n : Nat} {ins : Instr} {st av r : List ai_V} {cY : ByteArray} {maxL : Nat} {ret : Option FieldType} {hh : List (Nat × Nat × Nat × Nat)} (hp : ai_args ins ks st h = some (av, r)) (hok : ai_iok Ts cl own y n ins ks) (hn : (parseMethodDescriptor y.desc).map (fun d => d.parameters.length) = some n)
    (hcw : ai_cw Ts y cY maxL ret hh) (hin : y.name = "<init>" → hh = [] ∧ ret = none ∧ Cond.code y cY maxL none ∈ Ts) (hini : Cond.initialized y.cls ∈ Ts) (hy : y.cls ≠ "java/lang/invoke/MethodHandle" ∧ y.cls ≠ "java/lang/invoke/VarHandle") (hd : decode cc pc = .ok (ins, 3)) :
    ∃ mk vm₁, s.methodNamed? y = some mk ∧ s.WarmedH vm₁ ∧ Stand p l e R s m args below meth c (T.setVm vm₁) locs cells slots ∧
      ∀ target, Steps p.tables e below (doInvoke e ((T.setVm vm₁).setTop (F0 m pc lsA (r.map (ai_v ρ)))) [] mk (av.map (ai_v ρ)).toArray).1 target → Steps p.tables e below (T.setTop (F0 m pc lsA (st.map (ai_v ρ)))) target := by
  obtain ⟨a1, a2, a3, a4, a5⟩ := ai_args_spec hp
  obtain ⟨mk, methY, cd, hnm, hm, hcd, hcb, hcm, hce, hcr, hcl, hcs⟩ := ai_cw_spec hts hcw
  have hnp : n = methY.sig.parameters.length := by
    rw [hcs] at hn
    exact (Option.some.inj hn).symm
  subst a1
  cases ins
  case invokestatic idx =>
    obtain ⟨g1, g2, g3⟩ := hok
    have hstat : methY.isStatic = true := Cond.static_spec hnm hm (hts _ g2)
    obtain ⟨kP, hkP, -⟩ := className_of_methodNamed hnm
    have hiP : kP.init = .initialized := Cond.initialized_spec (findClass_of_methodNamed hnm) hkP (hts _ hini)
    have hstack : (F0 m pc lsA ((av.reverse ++ r).map (ai_v ρ))).stack = (av.map (ai_v ρ)).reverse ++ r.map (ai_v ρ) := by simp
    have hlen : (av.map (ai_v ρ)).length = methY.sig.parameters.length := by rw [List.length_map, a2, g1, hnp]
    rcases g3 with g3 | ⟨host, g3⟩
    · obtain ⟨vm₁, X₁, st₁⟩ := X.invokestatic hx hown (hts _ g3) hnm hm hstat hkP hiP hy (g := F0 m pc lsA ((av.reverse ++ r).map (ai_v ρ))) rfl hlen hstack (by rw [hb]; exact hd)
      exact ⟨mk, vm₁, hnm, X₁.warmed, X₁, fun target hr => st₁ _ fun acts => by rw [doInvoke_state]; exact hr⟩
    · obtain ⟨vm₁, X₁, st₁⟩ := X.invokestaticNest hx hown (hts _ g3) hnm hm hstat hkP hiP hy (g := F0 m pc lsA ((av.reverse ++ r).map (ai_v ρ))) rfl hlen hstack (by rw [hb]; exact hd)
      exact ⟨mk, vm₁, hnm, X₁.warmed, X₁, fun target hr => st₁ _ fun acts => by rw [doInvoke_state]; exact hr⟩
  case invokespecial idx =>
    obtain ⟨g1, g2, g4, g3⟩ := hok
    obtain ⟨a, vs, rfl⟩ := a4 idx rfl
    obtain ⟨i1, i2, i3⟩ := hin g2
    have hpl : e.platform.magicAccessors = ({} : Platform).magicAccessors := by rw [X.admits.platform]
    have hstack : (F0 m pc lsA (((Sum.inr (Sum.inr (some a)) :: vs).reverse ++ r).map (ai_v ρ))).stack = (vs.map (ai_v ρ)).reverse ++ .ref (ρ a) :: r.map (ai_v ρ) := by simp [ai_v]
    have hlen : ∀ sig, parseMethodDescriptor y.desc = some sig → (vs.map (ai_v ρ)).length = sig.parameters.length := by
      intro sig hs
      cases hcs.symm.trans hs
      rw [List.length_map, ← hnp]
      have : vs.length + 1 = n + 1 := by rw [← g1, ← a2, List.length_cons]
      omega
    rcases g3 with g3 | ⟨host, g3⟩
    · obtain ⟨mk', methM, cM, kP, vm₁, hnamed, hmethM, hcodeM, -, hlocalsM, -, hkP, -, hW₁, st₁⟩ := Steps.initColdArgs (e := e) X.here hx X.warmed hpl hown g2 hy (hts _ g3) (hts _ g4) (hts _ i3) (f := F0 m pc lsA (((Sum.inr (Sum.inr (some a)) :: vs).reverse ++ r).map (ai_v ρ))) rfl hlen hstack (by rw [hb]; exact hd)
      cases hnm.symm.trans hnamed
      exact ⟨mk, vm₁, hnm, hW₁, X.noted hW₁, fun target hr => st₁ _ fun acts => by rw [doInvoke_state]; exact hr⟩
    · obtain ⟨mk', methM, cM, kP, vm₁, hnamed, hmethM, hcodeM, -, hlocalsM, -, hkP, -, hW₁, st₁⟩ := Steps.initColdArgsNest (e := e) X.here hx X.warmed hpl hown g2 hy (hts _ g3) (hts _ g4) (hts _ i3) (f := F0 m pc lsA (((Sum.inr (Sum.inr (some a)) :: vs).reverse ++ r).map (ai_v ρ))) rfl hlen hstack (by rw [hb]; exact hd)
      cases hnm.symm.trans hnamed
      exact ⟨mk, vm₁, hnm, hW₁, X.noted hW₁, fun target hr => st₁ _ fun acts => by rw [doInvoke_state]; exact hr⟩
  case invokevirtual idx =>
    obtain ⟨g1, g4, g3, C, T0, N, g5, g6⟩ := hok
    obtain ⟨a, vs, fs, rfl, ha⟩ := a5 idx rfl
    obtain ⟨mk', methM, hnamed, hmethM, hstM, habM⟩ := Cond.instanceMethod_spec (hts _ g4)
    cases hnm.symm.trans hnamed
    cases hm.symm.trans hmethM
    obtain ⟨dom, h1, hP, hD, hc⟩ := hR
    obtain ⟨j, -, hj⟩ := ai_R.idx (D := D) (cl := cl) (dA := dA) (ρ := ρ) h1 ha rfl
    obtain ⟨cellB, hcB, hoB, hclB⟩ := va_recv hK hP g5 hj
    obtain ⟨c2, r2, m2, q1, q2, q3, q4, kP, hkP, hkPi⟩ := Cond.selects_spec (hts _ g6)
    cases hclB.symm.trans q1
    cases (State.methodFound?_of_named hnm hy).symm.trans q2
    cases hnm.symm.trans q3
    have hselP : selectMethod e.platform s.vm cellB.cls mk = .method mk := by rw [Launch.admits_selectMethod X.admits]; exact q4
    have hstack : (F0 m pc lsA (((Sum.inr (Sum.inr (some a)) :: vs).reverse ++ r).map (ai_v ρ))).stack = (vs.map (ai_v ρ)).reverse ++ .ref (ρ a) :: r.map (ai_v ρ) := by simp [ai_v]
    have hlen : (vs.map (ai_v ρ)).length = methY.sig.parameters.length := by
      rw [List.length_map, ← hnp]
      have : vs.length + 1 = n + 1 := by rw [← g1, ← a2, List.length_cons]
      omega
    rcases g3 with g3 | ⟨host, g3⟩
    · obtain ⟨vm₁, X₁, st₁⟩ := X.invokevirtual hx hown (hts _ g3) hnm hm hstM hkP hkPi hy (a := ρ a) (cell := cellB) (by rw [hT]; exact hcB) (fun z h => by rw [h] at hoB; cases hoB) hselP hm habM hkP hkPi (g := F0 m pc lsA (((Sum.inr (Sum.inr (some a)) :: vs).reverse ++ r).map (ai_v ρ))) rfl hlen hstack (by rw [hb]; exact hd)
      exact ⟨mk, vm₁, hnm, X₁.warmed, X₁, fun target hr => st₁ _ fun acts => by rw [doInvoke_state]; exact hr⟩
    · obtain ⟨vm₁, X₁, st₁⟩ := X.invokevirtualNest hx hown (hts _ g3) hnm hm hstM hkP hkPi hy (a := ρ a) (cell := cellB) (by rw [hT]; exact hcB) (fun z h => by rw [h] at hoB; cases hoB) hselP hm habM hkP hkPi (g := F0 m pc lsA (((Sum.inr (Sum.inr (some a)) :: vs).reverse ++ r).map (ai_v ρ))) rfl hlen hstack (by rw [hb]; exact hd)
      exact ⟨mk, vm₁, hnm, X₁.warmed, X₁, fun target hr => st₁ _ fun acts => by rw [doInvoke_state]; exact hr⟩
  all_goals exact absurd hok (fun z => z)
end AIL
end
section
/-! What was there before the law began: the script (0), the empty array of lists (2), the class of arrays of objects (3). -/
def ai_scr (b0 L : Nat) (xs : Nat → Int32) (ρ : ai_A → Nat) (h : ai_H) (U : State) : Prop :=
  (∀ a, h.1 a = some (.inr (.inr 0)) → va_X (ρ a) L xs U U.heap ∧ ρ a < b0) ∧
  (∀ a, h.1 a = some (.inr (.inr 2)) → va_Z "java/util/ArrayList" "DEFAULTCAPACITY_EMPTY_ELEMENTDATA" "[Ljava/lang/Object;" (.ref (ρ a)) (fun q => b0 ≤ q) U U.heap ∧ va_T (.object "java/lang/Object") (ρ a) 0 (fun _ => .null) (fun q => b0 ≤ q) U U.heap) ∧
  ∀ a, h.1 a = some (.inr (.inr 3)) → va_Mi "[Ljava/lang/Object;" (ρ a) U
/-- from one heap to a later one -/
def ai_ex (h : ai_H) (ρ : ai_A → Nat) (h' : ai_H) (ρ' : ai_A → Nat) : Prop := ai_le h ρ ρ' ∧ (∀ b, (h.1 b).isSome = true → (h'.1 b).isSome = true) ∧ ∀ b k, k ≠ 1 → h'.1 b = some (.inr (.inr k)) → h.1 b = some (.inr (.inr k))
theorem ai_ex.refl {h : ai_H} {ρ : ai_A → Nat} : ai_ex h ρ h ρ := ⟨fun _ _ => rfl, fun _ z => z, fun _ _ _ z => z⟩
theorem ai_ex.trans {h h1 h2 : ai_H} {ρ ρ1 ρ2 : ai_A → Nat} (a : ai_ex h ρ h1 ρ1) (b : ai_ex h1 ρ1 h2 ρ2) : ai_ex h ρ h2 ρ2 :=
  ⟨fun q z => (b.1 q (a.2.1 q z)).trans (a.1 q z), fun q z => b.2.1 q (a.2.1 q z), fun q k hk z => a.2.2 q k hk (b.2.2 q k hk z)⟩
theorem ai_ex.ok {h h1 : ai_H} {ρ ρ1 : ai_A → Nat} (a : ai_ex h ρ h1 ρ1) {v : ai_V} (hv : ai_ok h v) : ai_ok h1 v := fun q z => a.2.1 q (hv q z)
theorem ai_scr.step {b0 L : Nat} {xs : Nat → Int32} {ρ ρ1 : ai_A → Nat} {h h1 : ai_H} {U : State} (k : ai_scr b0 L xs ρ h U) (x : ai_ex h ρ h1 ρ1) : ai_scr b0 L xs ρ1 h1 U := by
  refine ⟨fun a ha => ?_, fun a ha => ?_, fun a ha => ?_⟩
  · have h0 := x.2.2 a 0 (by decide) ha
    rw [x.1 a (by rw [h0]; rfl)]
    exact k.1 a h0
  · have h0 := x.2.2 a 2 (by decide) ha
    rw [x.1 a (by rw [h0]; rfl)]
    exact k.2.1 a h0
  · have h0 := x.2.2 a 3 (by decide) ha
    rw [x.1 a (by rw [h0]; rfl)]
    exact k.2.2 a h0
theorem ai_scr.moved {b0 L : Nat} {xs : Nat → Int32} {ρ : ai_A → Nat} {h : ai_H} {u U : State} (k : ai_scr b0 L xs ρ h u) (hvm : u.vm.Alike U.vm) (hh : ∀ q, q < b0 → U.heap[q]? = u.heap[q]?) : ai_scr b0 L xs ρ h U := by
  refine ⟨fun a ha => ?_, fun a ha => ?_, fun a ha => ?_⟩
  · obtain ⟨k1, k2⟩ := k.1 a ha
    exact ⟨(k1.kept (hh _ k2)).moved hvm, k2⟩
  · obtain ⟨k1, k2⟩ := k.2.1 a ha
    exact ⟨(k1.kept (fun q _ z => hh q (by omega))).moved hvm, (k2.kept (fun q _ z => hh q (by omega))).moved hvm⟩
  · exact (k.2.2 a ha).moved hvm
def ai_gc : MethodName := ⟨"java/lang/Object", "getClass", "()Ljava/lang/Class;"⟩
/-- what a row of kind 10 must keep -/
def ai_xok (Ts : List Cond) (own : String) (pc len : Nat) (ins : Instr) (ks : List Nat) : Prop := match ks.getD 0 0 with
  | 0 => len = 3 ∧ ∃ idx, ins = .getstatic idx ∧ Cond.fieldLink own idx "java/util/ArrayList" "DEFAULTCAPACITY_EMPTY_ELEMENTDATA" "[Ljava/lang/Object;" ∈ Ts
  | 1 => len = 2 ∧ ∃ idx, ins = .ldc idx ∧ Cond.classLink own idx "[Ljava/lang/Object;" ∈ Ts
  | 2 => len = 3 ∧ ∃ idx, ins = .invokevirtual idx ∧ Cond.methodLink own idx ai_gc ∈ Ts ∧ Cond.declares ai_gc ∈ Ts ∧ Cond.selects "[Ljava/lang/Object;" ai_gc ai_gc ∈ Ts ∧ Cond.instanceMethod ai_gc ∈ Ts ∧ Cond.native ai_gc ∈ Ts
  | 3 => len = 3 ∧ ∃ off, ins = .if_acmp .eq off ∧ (pc : Int) + off = (ks.getD 1 0 : Nat)
  | 4 => len = 3 ∧ ∃ off, ins = .if_acmp .ne off ∧ (pc : Int) + off = (ks.getD 1 0 : Nat)
  | 5 => len = 3 ∧ ∃ idx, ins = .invokestatic idx ∧ Cond.methodLink own idx arraycopyName ∈ Ts ∧ Cond.native arraycopyName ∈ Ts ∧ Cond.static arraycopyName ∈ Ts ∧ Cond.initialized "java/lang/System" ∈ Ts
  | 6 => len = 3 ∧ ∃ idx, ins = .invokestatic idx ∧ Cond.methodLink own idx arraycopyName ∈ Ts ∧ Cond.native arraycopyName ∈ Ts ∧ Cond.static arraycopyName ∈ Ts ∧ Cond.initialized "java/lang/System" ∈ Ts
  | _ => False
theorem ai_wt_eq {ρ : ai_A → Nat} : ∀ st : List ai_V, ((st.map (ai_v ρ)).map fun v => v.category).sum = ai_wt st
  | [] => rfl
  | v :: vs => by
    simp only [List.map_cons, List.sum_cons, ai_wt, ai_wt_eq vs]
    congr 1
    rcases v with x | x | _ | a <;> rfl
theorem ai_is2_eq {z : ai_C} (h : ai_is2 z = true) : z = .inr (.inr 2) := by
  unfold ai_is2 at h
  split at h
  · rfl
  · cases h
/-- two references that are told apart are apart -/
theorem ai_same_spec {D : va_G} {cl : List vw_C} {dA : Nat → ClassId} {b0 L : Nat} {xs : Nat → Int32} {ρ : ai_A → Nat} {h : ai_H} {H : Heap} {U : State} (hR : ai_R D cl dA (fun q => b0 ≤ q) ρ h H) (hsc : ai_scr b0 L xs ρ h U) {x y : Option ai_A} {q : Bool} (hs : ai_same h x y = some q) : (x.map ρ = y.map ρ) ↔ q = true := by
  obtain ⟨dom, h1, hP, hD, hc⟩ := hR
  have big : ∀ {a : ai_A} {z : ai_C}, h.1 a = some z → ai_solid z = true → b0 ≤ ρ a := by
    intro a z ha hz
    obtain ⟨k, -, hk⟩ := ai_R.idx (D := D) (cl := cl) (dA := dA) (ρ := ρ) h1 ha hz
    exact hD.2 k _ hk
  have low : ∀ {a : ai_A}, h.1 a = some (.inr (.inr 2)) → ¬ b0 ≤ ρ a := fun ha => (hsc.2.1 _ ha).2.out
  have inj : ∀ {a b : ai_A} {z w : ai_C}, h.1 a = some z → ai_solid z = true → h.1 b = some w → ai_solid w = true → ρ a = ρ b → a = b := by
    intro a b z w ha hz hb hw e
    obtain ⟨k, k0, hk⟩ := ai_R.idx (D := D) (cl := cl) (dA := dA) (ρ := ρ) h1 ha hz
    obtain ⟨j, j0, hj⟩ := ai_R.idx (D := D) (cl := cl) (dA := dA) (ρ := ρ) h1 hb hw
    have := hD.1 k j _ _ hk hj e
    subst this
    exact Option.some.inj (k0.symm.trans j0)
  unfold ai_same at hs
  split at hs
  · cases hs; simp
  · cases hs; simp
  · cases hs; simp
  · rename_i a b
    split at hs
    · rename_i hab
      cases hs
      subst hab
      simp
    · rename_i hab
      split at hs
      · rename_i z w ha hb
        split at hs
        · rename_i hzw
          cases hs
          simp only [Option.map_some, Option.some.injEq, Bool.false_eq_true, iff_false]
          intro e9
          rcases hzw with ⟨q1, q2⟩ | ⟨q1, q2⟩ | ⟨q1, q2⟩
          · exact hab (inj ha q1 hb q2 e9)
          · have q3 := low (ai_is2_eq q2 ▸ hb)
            have q4 := big ha q1
            omega
          · have q3 := low (ai_is2_eq q1 ▸ ha)
            have q4 := big hb q2
            omega
        · cases hs
      · cases hs
theorem ai_cpy_map {ρ : ai_A → Nat} (f g : Nat → Option ai_A) (sp dp n : Nat) : va_cpy (fun j => (f j).map ρ) (fun j => (g j).map ρ) sp dp n = fun j => (va_cpy f g sp dp n j).map ρ := by
  funext j
  simp only [va_cpy]
  split <;> rfl
theorem ai_cpy_cok {h : ai_H} {t0 n0 t n : Nat} {f g : Nat → Option ai_A} {sp dp k : Nat} (hf : ai_cok h (.inr (.inl (t0, n0, .inr (.inr f))))) (hg : ai_cok h (.inr (.inl (t, n, .inr (.inr g))))) : ai_cok h (.inr (.inl (t, n, .inr (.inr (va_cpy f g sp dp k))))) := by
  intro j a ha
  simp only [va_cpy] at ha
  split at ha
  · exact hf _ a ha
  · exact hg _ a ha
theorem ai_obj_ex {ty : FieldType} (h : ai_obj ty = true) : ∃ E, ty = .object E := by
  cases ty <;> first | exact ⟨_, rfl⟩ | (cases h; done)
section AIX
variable {p : Program} {l : Launch} {e : Env} {R : Room} {s : State} {m : MethodId} {args : Array Value} {below : List Frame} {meth : Method} {c : Code} {H : Heap} {locs : List Loc} {cells slots : Nat} {Q : State → Prop}
variable {cc : ByteArray} {pc pc' len : Nat} {lsA : Array Slot} {ρ : ai_A → Nat} {D : va_G} {cl : List vw_C} {dA : Nat → ClassId} {b0 L : Nat} {xs : Nat → Int32} {h h' : ai_H} {Ts : List Cond} {tyL : List FieldType} {tyF : Nat → Nat → FieldType} {asg : Nat → Nat → Bool} {own : String} {ks : List Nat}
set_option maxHeartbeats 4000000 in
theorem ai_ext_W (hx : p.tables.exec = Jvm.exec) (hb : c.code = cc) (hml : c.maxLocals = lsA.size) (hts : ∀ w ∈ Ts, w.before args s = true) (hown : s.vm.findClass own = some m.cls) (hcl : ai_clok Ts cl tyF) (hasg : ai_aok Ts cl tyL asg) (hK : va_K D cl (ai_tys dA tyL) s) (hR : ai_R D cl dA (fun q => b0 ≤ q) ρ h H) (hS : va_S (fun q => b0 ≤ q) s.heap H locs) (hsc : ai_scr b0 L xs ρ h s)
    {ins : Instr} {st st' : List ai_V} (hst : ∀ v ∈ st, ai_ok h v) (hp : ai_ext (fun t => tyL.getD t .float) asg pc ks st h = some (pc', st', h')) (hok : ai_xok Ts own pc len ins ks) (hd : decode cc pc = .ok (ins, len)) (hf : 1 ≤ R.frames) (hl : 200 ≤ R.locals)
    (k : ∀ (H' : Heap) (locs' : List Loc), ai_ex h ρ h' ρ → ai_R D cl dA (fun q => b0 ≤ q) ρ h' H' → va_S (fun q => b0 ≤ q) s.heap H' locs' → (∀ v ∈ st', ai_ok h' v) → h'.2 = h.2 → W p l e R s m args below meth c H' locs' cells slots Q (F0 m pc' lsA (st'.map (ai_v ρ)))) :
    W p l e R s m args below meth c H locs cells slots Q (F0 m pc lsA (st.map (ai_v ρ))) := by
  have hR0 := hR
  obtain ⟨dom, h1, hP, hD, hc⟩ := hR
  have hnf : nativeFrameWords "java/lang/System" "arraycopy" 5 + 11 ≤ 100 := by decide
  have op : ∀ {a : ai_A} {x : ai_C}, ai_solid x = true → ∀ b k, (ai_put h a x).1 b = some (.inr (.inr k)) → h.1 b = some (.inr (.inr k)) := by
    intro a x hxs b k hb
    by_cases z : b = a
    · subst z
      have : x = .inr (.inr k) := by simpa [ai_put, ai_upd] using hb
      rw [this] at hxs
      cases hxs
    · simpa [ai_put, ai_upd, z] using hb
  unfold ai_ext at hp
  unfold ai_xok at hok
  split at hp
  · rename_i hk0
    rw [hk0] at hok
    obtain ⟨rfl, idx, rfl, g1⟩ := hok
    split at hp
    · rename_i ha
      cases hp
      exact va_gets hx hb (hsc.2.1 _ ha).1 hS hown (hts _ g1) (fun _ z => z) hd (k H locs ai_ex.refl hR0 hS (ai_oks (ai_ok_ref (by rw [ha]; rfl)) hst) rfl)
    · cases hp
  · rename_i hk0
    rw [hk0] at hok
    obtain ⟨rfl, idx, rfl, g1⟩ := hok
    split at hp
    · rename_i ha
      cases hp
      exact va_ldcM hx hb hown (hts _ g1) (hsc.2.2 _ ha) hd (k H locs ai_ex.refl hR0 hS (ai_oks (ai_ok_ref (by rw [ha]; rfl)) hst) rfl)
    · cases hp
  · rename_i hk0
    rw [hk0] at hok
    obtain ⟨rfl, idx, rfl, g1, g2, g3, g4, g5⟩ := hok
    split at hp
    · split at hp
      · rename_i a r _ _ t n f ha hb2
        split at hp
        · rename_i hc2
          cases hp
          obtain ⟨j, -, hj⟩ := ai_R.idx (D := D) (cl := cl) (dA := dA) (ρ := ρ) h1 ha rfl
          have hcell : H[ρ a]? = some (vp_cell (dA t) (n, .inr (.inr (.inr (.inr fun j => (f j).map ρ))))) := hP j _ hj
          have hra := (hK.2 t _ (ai_tys_at (dA := dA) hc2.1 (by simp))).2
          exact va_getC hx hb hml hown (hts _ g1) (hts _ g2) (hts _ g3) (hts _ g4) (hts _ g5) (hsc.2.2 _ hb2) ⟨_, hcell, rfl, va_nmO hra rfl⟩ hf (by rw [ai_wt_eq]; omega) hd (k H locs ai_ex.refl hR0 hS (ai_oks (ai_ok_ref (by rw [hb2]; rfl)) (ai_okt hst)) rfl)
        · cases hp
      · cases hp
    · cases hp
  · rename_i hk0
    rw [hk0] at hok
    obtain ⟨rfl, off, rfl, g1⟩ := hok
    split at hp
    · rename_i y x r
      split at hp
      · rename_i q hq
        cases hp
        have hsp := ai_same_spec hR0 hsc hq
        have kk := k H locs ai_ex.refl hR0 hS (ai_okt (ai_okt hst)) rfl
        rw [List.map_cons, List.map_cons, ← ai_rf, ← ai_rf]
        refine lv_acmp_eq hx hb hd g1 (fun z => ?_) (fun z => ?_)
        · rw [if_pos (hsp.mp z)] at kk
          exact kk
        · rw [if_neg (fun w => z (hsp.mpr w))] at kk
          exact kk
      · cases hp
    · cases hp
  · rename_i hk0
    rw [hk0] at hok
    obtain ⟨rfl, off, rfl, g1⟩ := hok
    split at hp
    · rename_i y x r
      split at hp
      · rename_i q hq
        cases hp
        have hsp := ai_same_spec hR0 hsc hq
        have kk := k H locs ai_ex.refl hR0 hS (ai_okt (ai_okt hst)) rfl
        rw [List.map_cons, List.map_cons, ← ai_rf, ← ai_rf]
        refine lv_acmp_ne hx hb hd g1 (fun z => ?_) (fun z => ?_)
        · rw [if_neg (fun w => z (hsp.mpr w))] at kk
          exact kk
        · rw [if_pos (hsp.mp z)] at kk
          exact kk
      · cases hp
    · cases hp
  · rename_i hk0
    rw [hk0] at hok
    obtain ⟨rfl, idx, rfl, g1, g2, g3, g4⟩ := hok
    split at hp
    · rename_i n dp b sp a r
      split at hp
      · rename_i t0 n0 f t1 n1 g ha hb2
        split at hp
        · rename_i hc2
          obtain ⟨c1, c2, c3, c4, c5, c6, c7, c8⟩ := hc2
          cases hp
          obtain ⟨j0, -, hj0⟩ := ai_R.idx (D := D) (cl := cl) (dA := dA) (ρ := ρ) h1 ha rfl
          obtain ⟨j1, hj10, hj1⟩ := ai_R.idx (D := D) (cl := cl) (dA := dA) (ρ := ρ) h1 hb2 rfl
          refine va_copyi hx hb hml hown (hts _ g1) (hts _ g2) (hts _ g3) (hts _ g4) hK hP hD hS j0 j1 t0 t1 hj0 hj1 (ai_tys_at c1 (by decide)) (ai_tys_at c2 (by decide)) (by decide) c3 c4 c5 c6 c7 (fun _ _ => rfl) hf (by rw [ai_wt_eq]; omega) hd (ai_st_fin (t' := t1) (n' := n1) (d' := .inl (va_cpy f g sp.toNatClampNeg dp.toNatClampNeg n.toNatClampNeg)) h1 hc hD hj10 hb2 trivial (fun H1 locs1 q1 q2 => ?_) rfl)
          exact k H1 locs1 ⟨ai_le_refl, fun b z => ai_put_some z, fun b k _ => op rfl b k⟩ q1 q2 (ai_oksP (ai_okt (ai_okt (ai_okt (ai_okt (ai_okt hst)))))) rfl
        · cases hp
      · cases hp
    · cases hp
  · rename_i hk0
    rw [hk0] at hok
    obtain ⟨rfl, idx, rfl, g1, g2, g3, g4⟩ := hok
    split at hp
    · rename_i n dp b sp a r
      split at hp
      · rename_i t0 n0 f t1 n1 g ha hb2
        split at hp
        · rename_i hc2
          obtain ⟨c1, c3, c4, c5, c6, c7, c8, cj, c9, c10⟩ := hc2
          cases hp
          obtain ⟨E0, hE0⟩ := ai_obj_ex c1
          obtain ⟨E1, r1, hE1, hr1, hca⟩ := hasg t1 cj c9
          obtain ⟨j0, -, hj0⟩ := ai_R.idx (D := D) (cl := cl) (dA := dA) (ρ := ρ) h1 ha rfl
          obtain ⟨j1, hj10, hj1⟩ := ai_R.idx (D := D) (cl := cl) (dA := dA) (ρ := ρ) h1 hb2 rfl
          refine va_copyq (C := r1.1) hx hb hml hown (hts _ g1) (hts _ g2) (hts _ g3) (hts _ g4) hK hP hD hS j0 j1 t0 t1 hj0 hj1 (ai_tys_at hE0 (by simp)) (ai_tys_at hE1 (by simp)) c3 c4 c5 c6 c7 (fun i hi y hy => ?_) (fun comp c0 z1 z2 => ?_) hf (by rw [ai_wt_eq]; omega) hd (ai_st_fin (t' := t1) (n' := n1) (d' := .inr (.inr (va_cpy f g sp.toNatClampNeg dp.toNatClampNeg n.toNatClampNeg))) h1 hc hD hj10 hb2 (ai_cpy_cok (hc _ _ ha) (hc _ _ hb2)) (fun H1 locs1 q1 q2 => ?_) ?_)
          · obtain ⟨b', hb', rfl⟩ := Option.map_eq_some_iff.mp hy
            obtain ⟨fs, hfs⟩ := c10 i hi b' hb'
            obtain ⟨j3, -, hj3⟩ := ai_R.idx (D := D) (cl := cl) (dA := dA) (ρ := ρ) h1 hfs rfl
            exact va_recv hK hP hr1 hj3
          · rcases hca with hca | hca
            · rw [hca] at z2
              cases z1.symm.trans z2
              have hcA := (hK.1 cj r1 hr1).2
              rw [hca] at hcA
              cases z1.symm.trans hcA.1
              exact va_assign hcA
            · obtain ⟨c3', c4', y1, y2, y3⟩ := Cond.castable_spec (hts _ hca)
              cases y1.symm.trans z2
              cases y2.symm.trans z1
              exact y3
          · exact k H1 locs1 ⟨ai_le_refl, fun b z => ai_put_some z, fun b k _ => op rfl b k⟩ q1 q2 (ai_oksP (ai_okt (ai_okt (ai_okt (ai_okt (ai_okt hst)))))) rfl
          · exact congrArg (fun g => (Sum.inl (dA t1, n1, Sum.inr (Sum.inr (Sum.inr (Sum.inr g)))) : va_E)) (ai_cpy_map f g sp.toNatClampNeg dp.toNatClampNeg n.toNatClampNeg)
        · cases hp
      · cases hp
    · cases hp
  · cases hp
end AIX
end
section
/-! What the program must keep; a frame's run. -/
def ai_tk (Ts : List Cond) (own E : String) (q : Nat × Nat × Nat × Nat) (b : Bool) : Prop := q.2.2.2 ≠ 0 ∧ ∃ nm : String, Cond.classLink own q.2.2.2 nm ∈ Ts ∧ ((b = true ∧ Cond.castable E nm ∈ Ts) ∨ (b = false ∧ Cond.not (.castable E nm) ∈ Ts))
def ai_cov (q : Nat × Nat × Nat × Nat) (pc : Nat) : Bool := decide (q.1 ≤ pc) && decide (pc < q.2.1)
def ai_thr (Ts : List Cond) (own : String) (cc : ByteArray) (hh : List (Nat × Nat × Nat × Nat)) (E : String) (pc : Nat) (ins : Instr) : Prop := ∃ (ik ic : Nat) (ns : List String), ins = .new ik ∧ ai_tok Ts own E ns ik ic ∧ ns.length ≤ 6 ∧ decode cc (pc + 3) = .ok (.dup, 1) ∧ decode cc (pc + 4) = .ok (.invokespecial ic, 3) ∧ decode cc (pc + 7) = .ok (.athrow, 1) ∧ ∀ q ∈ hh, ai_cov q (pc + 7) = false
def ai_hnd (Ts : List Cond) (own : String) (hh : List (Nat × Nat × Nat × Nat)) (ex : Nat → String) (Hn : Nat → Option (Option Nat)) (pc : Nat) : Prop :=
  (∀ x, Hn x = some none → ∀ q ∈ hh, ai_cov q pc = false) ∧ ∀ x pc', Hn x = some (some pc') → ∃ (pre : List (Nat × Nat × Nat × Nat)) (q : Nat × Nat × Nat × Nat) (suf : List (Nat × Nat × Nat × Nat)), hh = pre ++ q :: suf ∧ q.2.2.1 = pc' ∧ ai_cov q pc = true ∧ ai_tk Ts own (ex x) q true ∧ ∀ z ∈ pre, ai_cov z pc = false ∨ ai_tk Ts own (ex x) z false
def ai_rok (Ts : List Cond) (cl : List vw_C) (P : ai_P) (M : ai_M) (ex : Nat → String) (mi : Nat) (y : MethodName) (cc : ByteArray) (hh : List (Nat × Nat × Nat × Nat)) (pc : Nat) (r : ai_I) : Prop :=
  ∃ len, decode cc pc = .ok (r.2.1, len) ∧ ai_lok r.2.1 len = true ∧ (r.1 = 1 → ai_jok r.2.1 pc r.2.2) ∧ (r.1 = 3 → ai_hok Ts cl P.2.2.2.2.1 P.2.2.2.2.2.1 P.2.2.2.1 y.cls y.name r.2.1 r.2.2) ∧
    (r.1 = 4 → len = 3 ∧ ai_hnd Ts y.cls hh ex (P.2.1 mi pc) pc ∧ ∃ (y' : MethodName) (cc' : ByteArray) (hh' : List (Nat × Nat × Nat × Nat)) (n : Nat), M (r.2.2.getD 0 0) = some (y', cc', hh') ∧ (parseMethodDescriptor y'.desc).map (fun d => d.parameters.length) = some n ∧ ai_iok Ts cl y.cls y' n r.2.1 r.2.2) ∧
    (r.1 = 6 → len = 3 ∧ ai_thr Ts y.cls cc hh (ex (r.2.2.getD 0 0)) pc r.2.1) ∧
    (r.1 = 7 → len = 3 ∧ ∃ idx, r.2.1 = .invokespecial idx ∧ Cond.methodLink y.cls idx Lib.objectInit ∈ Ts ∧ Cond.instanceMethod Lib.objectInit ∈ Ts ∧ Cond.code Lib.objectInit ⟨#[0xb1]⟩ 1 none ∈ Ts) ∧
    (r.1 = 8 → len = 3 ∧ ∃ idx, r.2.1 = .invokestatic idx ∧ Cond.methodLink y.cls idx Lib.Math.max.name ∈ Ts ∧ Cond.static Lib.Math.max.name ∈ Ts ∧ Cond.initialized "java/lang/Math" ∈ Ts ∧ Cond.code Lib.Math.max.name Lib.Math.max.code 2 (some .int) ∈ Ts) ∧
    (r.1 = 9 → len = 3 ∧ ∃ idx, r.2.1 = .invokestatic idx ∧ Cond.methodLink y.cls idx Lib.Math.min.name ∈ Ts ∧ Cond.static Lib.Math.min.name ∈ Ts ∧ Cond.initialized "java/lang/Math" ∈ Ts ∧ Cond.code Lib.Math.min.name Lib.Math.min.code 2 (some .int) ∈ Ts) ∧
    (r.1 = 10 → ai_xok Ts y.cls pc len r.2.1 r.2.2)
def ai_mok (Ts : List Cond) (cl : List vw_C) (P : ai_P) (M : ai_M) (ex : Nat → String) : Prop := ∀ mi y cc hh, M mi = some (y, cc, hh) → plainFor y = true ∧ Cond.initialized y.cls ∈ Ts ∧ (y.cls ≠ "java/lang/invoke/MethodHandle" ∧ y.cls ≠ "java/lang/invoke/VarHandle") ∧ ai_cw Ts y cc (P.2.2.1 mi).1 (P.2.2.1 mi).2 hh ∧
  (y.name = "<init>" → hh = [] ∧ (P.2.2.1 mi).2 = none ∧ Cond.code y cc (P.2.2.1 mi).1 none ∈ Ts) ∧ (P.2.2.1 mi).1 ≤ 45 ∧ ∀ pc r, P.1 mi pc = some r → ai_rok Ts cl P M ex mi y cc hh pc r
theorem ai_lr.ext {h : ai_H} {ρ ρ' : ai_A → Nat} {ls : ai_L} {A : Array Slot} (hl : ai_lr ρ ls A) (hk : ∀ v, some v ∈ ls → ai_ok h v) (e : ai_le h ρ ρ') : ai_lr ρ' ls A := by
  obtain ⟨lv, h1, h2⟩ := hl
  exact ⟨lv, h1, fun k v hv => by rw [ai_v_ext (hk v (List.mem_of_getElem? hv)) e]; exact h2 k v hv⟩
theorem ai_lr.size {ρ : ai_A → Nat} {ls : ai_L} {A : Array Slot} (hl : ai_lr ρ ls A) : A.size = ls.length := by
  obtain ⟨lv, h1, -⟩ := hl
  exact h1.1
theorem ai_st1_ok {h : ai_H} {ls ls' : ai_L} {i : Nat} {v : ai_V} (hs : ai_st1 ls i v = some ls') (hv : ai_ok h v) (hl : ∀ w, some w ∈ ls → ai_ok h w) : ls'.length = ls.length ∧ ∀ w, some w ∈ ls' → ai_ok h w := by
  unfold ai_st1 at hs
  split at hs
  · cases hs
    refine ⟨List.length_set, fun w hw => ?_⟩
    rcases List.mem_or_eq_of_mem_set hw with z | z
    · exact hl w z
    · cases z; exact hv
  · cases hs
theorem ai_st2_ok {h : ai_H} {ls ls' : ai_L} {i : Nat} {v : ai_V} (hs : ai_st2 ls i v = some ls') (hv : ai_ok h v) (hl : ∀ w, some w ∈ ls → ai_ok h w) : ls'.length = ls.length ∧ ∀ w, some w ∈ ls' → ai_ok h w := by
  unfold ai_st2 at hs
  split at hs
  · cases hs
    refine ⟨by rw [List.length_set, List.length_set], fun w hw => ?_⟩
    rcases List.mem_or_eq_of_mem_set hw with z | z
    · rcases List.mem_or_eq_of_mem_set z with z | z
      · exact hl w z
      · cases z; exact hv
    · cases z
  · cases hs
theorem ai_pure_ok {h : ai_H} {ins : Instr} {st st' : List ai_V} (hp : ai_pure ins st = some st') (hs : ∀ v ∈ st, ai_ok h v) : ∀ v ∈ st', ai_ok h v := by
  have ii : ∀ f, ai_ii f st = some st' → ∀ v ∈ st', ai_ok h v := by
    intro f z
    obtain ⟨x, y, r, rfl, rfl⟩ := ai_ii_spec z
    exact ai_oks ai_ok_int (ai_okt (ai_okt hs))
  have ll : ∀ f, ai_ll f st = some st' → ∀ v ∈ st', ai_ok h v := by
    intro f z
    obtain ⟨x, y, r, rfl, rfl⟩ := ai_ll_spec z
    exact ai_oks ai_ok_long (ai_okt (ai_okt hs))
  have li : ∀ f, ai_li f st = some st' → ∀ v ∈ st', ai_ok h v := by
    intro f z
    obtain ⟨x, y, r, rfl, rfl⟩ := ai_li_spec z
    exact ai_oks ai_ok_long (ai_okt (ai_okt hs))
  unfold ai_pure at hp
  repeat' split at hp
  all_goals first
    | (cases hp; done)
    | exact ii _ hp
    | exact ll _ hp
    | exact li _ hp
    | (cases hp; exact ai_oks ai_ok_int hs)
    | (cases hp; exact ai_oks ai_ok_long hs)
    | (cases hp; exact ai_oks ai_ok_null hs)
    | (cases hp; exact ai_oks ai_ok_int (ai_okt hs))
    | (cases hp; exact ai_oks ai_ok_long (ai_okt hs))
    | (cases hp; exact ai_oks ai_ok_int (ai_okt (ai_okt hs)))
    | (cases hp; exact ai_okt hs)
    | (cases hp; exact ai_oks (hs _ (by simp)) hs)
    | (cases hp; intro v hv; refine hs v ?_; simp only [List.mem_cons] at hv ⊢; grind)
theorem ai_jmp_ok {h : ai_H} {ins : Instr} {pc pc' : Nat} {ks : List Nat} {st st' : List ai_V} (hp : ai_jmp ins pc ks st = some (pc', st')) (hs : ∀ v ∈ st, ai_ok h v) : ∀ v ∈ st', ai_ok h v := by
  unfold ai_jmp at hp
  repeat' split at hp
  all_goals first
    | (cases hp; done)
    | (cases hp; exact hs)
    | (cases hp; exact ai_okt hs)
    | (cases hp; exact ai_okt (ai_okt hs))
theorem ai_loc_ok {h : ai_H} {ins : Instr} {ls ls' : ai_L} {st st' : List ai_V} (hp : ai_loc ins ls st = some (ls', st')) (hs : ∀ v ∈ st, ai_ok h v) (hl : ∀ w, some w ∈ ls → ai_ok h w) : ls'.length = ls.length ∧ (∀ v ∈ st', ai_ok h v) ∧ ∀ w, some w ∈ ls' → ai_ok h w := by
  unfold ai_loc at hp
  repeat' split at hp
  all_goals first
    | (cases hp; done)
    | (rename_i hi; cases hp; exact ⟨rfl, ai_oks (hl _ (List.mem_of_getElem? hi)) hs, hl⟩)
    | (obtain ⟨q, hq, hz⟩ := Option.map_eq_some_iff.mp hp
       cases hz
       exact ⟨(ai_st1_ok hq (hs _ List.mem_cons_self) hl).1, ai_okt hs, (ai_st1_ok hq (hs _ List.mem_cons_self) hl).2⟩)
    | (obtain ⟨q, hq, hz⟩ := Option.map_eq_some_iff.mp hp
       cases hz
       exact ⟨(ai_st2_ok hq (hs _ List.mem_cons_self) hl).1, ai_okt hs, (ai_st2_ok hq (hs _ List.mem_cons_self) hl).2⟩)
    | (obtain ⟨q, hq, hz⟩ := Option.map_eq_some_iff.mp hp
       cases hz
       exact ⟨(ai_st1_ok hq ai_ok_int hl).1, hs, (ai_st1_ok hq ai_ok_int hl).2⟩)
theorem ai_heap_len {dfl : Nat → List ai_V} {tyA : Nat → FieldType} {tyF : Nat → Nat → FieldType} {asg : Nat → Nat → Bool} {L : Nat} {xs : Nat → Int32} {ins : Instr} {ks : List Nat} {st st' : List ai_V} {h h' : ai_H} (hp : ai_heap dfl tyA tyF asg L xs ins ks st h = some (st', h')) {len : Nat} (hl : ai_lok ins len = true) : len = ai_len ins := by
  cases ins <;> first | (simpa [ai_lok] using hl; done) | (simp [ai_heap] at hp; done)
theorem ai_pure_len {ins : Instr} {st st' : List ai_V} (hp : ai_pure ins st = some st') {len : Nat} (hl : ai_lok ins len = true) : len = ai_len ins := by
  cases ins <;> first | (simpa [ai_lok] using hl; done) | (simp [ai_pure] at hp; done)
theorem ai_loc_len {ins : Instr} {ls ls' : ai_L} {st st' : List ai_V} (hp : ai_loc ins ls st = some (ls', st')) {len : Nat} (hl : ai_lok ins len = true) : len = ai_len ins := by
  cases ins <;> first | (simpa [ai_lok] using hl; done) | (simp [ai_loc] at hp; done)
/-- an exception that was caught is a new thing -/
theorem ai_R.exc {D : va_G} {cl : List vw_C} {dA : Nat → ClassId} {B : Nat → Prop} {ρ : ai_A → Nat} {h : ai_H} {H : Heap} {q : Nat} (hR : ai_R D cl dA B ρ h H) (hn : h.1 (1, h.2.1 1) = none) : ai_R D cl dA B (ai_at ρ (1, h.2.1 1) q) (ai_exc h) H ∧ ai_ex h ρ (ai_exc h) (ai_at ρ (1, h.2.1 1) q) := by
  have hle : ai_le h ρ (ai_at ρ (1, h.2.1 1) q) := ai_at_le hn
  have hm : ∀ b, (h.1 b).isSome = true → ((ai_exc h).1 b).isSome = true := by
    intro b hb
    by_cases z : b = (1, h.2.1 1)
    · simp [ai_exc, ai_upd, z]
    · simpa [ai_exc, ai_upd, z] using hb
  obtain ⟨dom, h1, hP, hD, hc⟩ := hR
  have hw : ai_ws dA (ai_at ρ (1, h.2.1 1) q) (ai_exc h) dom = ai_ws dA ρ h dom := by
    unfold ai_ws
    refine List.map_congr_left fun b hb => ?_
    obtain ⟨y, hy, hys⟩ := (h1 b).mp hb
    have hne : ¬ b = (1, h.2.1 1) := fun z => by
      subst z
      rw [hn] at hy
      cases hy
    have e1 : (ai_exc h).1 b = some y := by simp [ai_exc, ai_upd, hne, hy]
    rw [e1, hy]
    show (ai_at ρ (1, h.2.1 1) q b, ai_e dA (ai_at ρ (1, h.2.1 1) q) y) = (ρ b, ai_e dA ρ y)
    rw [hle b (by rw [hy]; rfl), ai_e_ext (hc b y hy) hle]
  refine ⟨⟨dom, fun b => ?_, by rw [hw]; exact hP, by rw [hw]; exact hD, fun b y hb => ?_⟩, hle, hm, fun b k hk hb => ?_⟩
  · rw [h1 b]
    by_cases z : b = (1, h.2.1 1)
    · subst z
      constructor
      · rintro ⟨x, hx, -⟩
        rw [hn] at hx
        cases hx
      · rintro ⟨x, hx, hs⟩
        have : x = .inr (.inr 1) := by
          have := hx
          simp [ai_exc, ai_upd] at this
          exact this.symm
        rw [this] at hs
        cases hs
    · have e1 : (ai_exc h).1 b = h.1 b := by simp [ai_exc, ai_upd, z]
      rw [e1]
  · by_cases z : b = (1, h.2.1 1)
    · subst z
      have : (Sum.inr (Sum.inr 1) : ai_C) = y := by simpa [ai_exc, ai_upd] using hb
      rw [← this]
      trivial
    · have : h.1 b = some y := by simpa [ai_exc, ai_upd, z] using hb
      exact ai_cok_mono hm (hc b y this)
  · by_cases z : b = (1, h.2.1 1)
    · subst z
      have : (1 : Nat) = k := by simpa [ai_exc, ai_upd] using hb
      exact absurd this.symm hk
    · simpa [ai_exc, ai_upd, z] using hb
end
section
/-! THE FRAME'S RUN, AND ALL METHODS. b0: the heap's size where the law began; what lies below never changes. -/
def ai_xz (b0 : Nat) (U : State) : Prop := ai_Sw Bundle.tN "UNASSIGNED_STACK" Bundle.steD b0 U ∧ ai_Sw Bundle.tN "SUPPRESSED_SENTINEL" Bundle.listD b0 U
def ai_Pre (cl : List vw_C) (tyL : List FieldType) (D : va_G) (dA : Nat → ClassId) (b0 L : Nat) (xs : Nat → Int32) (ρ : ai_A → Nat) (h : ai_H) (av : List ai_V) : Array Value → State → Prop := fun a U =>
  a = (av.map (ai_v ρ)).toArray ∧ ai_R D cl dA (fun q => b0 ≤ q) ρ h U.heap ∧ va_K D cl (ai_tys dA tyL) U ∧ b0 ≤ U.heap.size ∧ (∀ v ∈ av, ai_ok h v) ∧ ai_scr b0 L xs ρ h U ∧ ai_xz b0 U
def ai_Qr (cl : List vw_C) (D : va_G) (dA : Nat → ClassId) (b0 : Nat) (ρ : ai_A → Nat) (h : ai_H) (o : ai_O) (h' : ai_H) : State → Option Value → State → Prop := fun st v t =>
  ∃ (ρ' : ai_A → Nat) (w : Option ai_V), o = .inl w ∧ v = w.map (ai_v ρ') ∧ ai_ex h ρ h' ρ' ∧ ai_R D cl dA (fun q => b0 ≤ q) ρ' h' t.heap ∧ (∀ x, w = some x → ai_ok h' x) ∧ va_F (fun q => b0 ≤ q) st t
def ai_Qt (cl : List vw_C) (D : va_G) (dA : Nat → ClassId) (b0 : Nat) (ex : Nat → String) (ρ : ai_A → Nat) (h : ai_H) (o : ai_O) (h' : ai_H) : State → Addr → State → Prop := fun st q t =>
  ∃ (ρ' : ai_A → Nat) (x : Nat) (ce : Cell), o = .inr x ∧ ai_ex h ρ h' ρ' ∧ ai_R D cl dA (fun q => b0 ≤ q) ρ' h' t.heap ∧ va_F (fun q => b0 ≤ q) st t ∧ t.heap[q]? = some ce ∧ ce.vm = .none ∧ st.vm.findClass (ex x) = some ce.cls
def ai_rm (d : Nat) (h h' : ai_H) : Room := { frames := d + 12, cells := h'.2.2.1 - h.2.2.1, slots := h'.2.2.2 - h.2.2.2, locals := 64 * d + 300 }
theorem ai_rm_f {d : Nat} {h h' : ai_H} : (ai_rm d h h').frames = d + 12 := rfl
theorem ai_rm_l {d : Nat} {h h' : ai_H} : (ai_rm d h h').locals = 64 * d + 300 := rfl
theorem ai_rm_c {d : Nat} {h h' : ai_H} : (ai_rm d h h').cells = h'.2.2.1 - h.2.2.1 := rfl
theorem ai_rm_s {d : Nat} {h h' : ai_H} : (ai_rm d h h').slots = h'.2.2.2 - h.2.2.2 := rfl
set_option maxRecDepth 8000 in
theorem ai_rm_r {a d r : Nat} (h : a ≤ 45) (hr : 64 * d + 364 ≤ r) : 8 + (a + 11) + (64 * d + 300) ≤ r := by omega
/-- what a frame's end owes -/
def ai_KR (cl : List vw_C) (P : ai_P) (mi : Nat) (D : va_G) (dA : Nat → ClassId) (b0 : Nat) (p : Program) (l : Launch) (e : Env) (R : Room) (s : State) (m : MethodId) (args : Array Value) (below : List Frame) (meth : Method) (c : Code) (Q : State → Prop) (cc : ByteArray) (ρ : ai_A → Nat) (h : ai_H) (cells slots : Nat) (o : ai_O) (h' : ai_H) : Prop :=
  ∀ (w : Option ai_V) (ρ' : ai_A → Nat) (H' : Heap) (locs' : List Loc) (cells' slots' : Nat) (lsB : Array Slot) (pc' : Nat) (ins : Instr), o = .inl w → ai_ex h ρ h' ρ' → ai_R D cl dA (fun q => b0 ≤ q) ρ' h' H' → va_S (fun q => b0 ≤ q) s.heap H' locs' → (∀ x, w = some x → ai_ok h' x) → cells' + h.2.2.1 = cells + h'.2.2.1 → slots' + h.2.2.2 = slots + h'.2.2.2 → decode cc pc' = .ok (ins, 1) → ai_ret ins (P.2.2.1 mi).2 w.toList = some w →
    W p l e R s m args below meth c H' locs' cells' slots' Q (F0 m pc' lsB (w.toList.map (ai_v ρ')))
def ai_KT (cl : List vw_C) (D : va_G) (dA : Nat → ClassId) (b0 : Nat) (ex : Nat → String) (s : State) (below : List Frame) (Q : State → Prop) (ρ : ai_A → Nat) (h : ai_H) (cells slots : Nat) (o : ai_O) (h' : ai_H) : Prop :=
  ∀ (x : Nat) (t : State) (q : Addr) (ce : Cell) (ρ' : ai_A → Nat) (locs' : List Loc) (cells' slots' : Nat), o = .inr x → t.status = .running → Ended t below (.threw q) → s.WarmedH t.vm → s.sameButNew ({ t with vm := s.vm } : State) locs' cells' slots' → (∀ z ∈ locs', b0 ≤ z.base) → ai_ex h ρ h' ρ' → ai_R D cl dA (fun q => b0 ≤ q) ρ' h' t.heap → va_F (fun q => b0 ≤ q) s t → t.heap[q]? = some ce → ce.vm = .none → s.vm.findClass (ex x) = some ce.cls → cells' + h.2.2.1 = cells + h'.2.2.1 → slots' + h.2.2.2 = slots + h'.2.2.2 → Q t
section AIM
variable {Ts : List Cond} {cl : List vw_C} {P : ai_P} {M : ai_M} {ex : Nat → String} {D : va_G} {dA : Nat → ClassId} {b0 L : Nat} {xs : Nat → Int32}
variable {p : Program} {l : Launch} {e : Env} {R : Room} {s : State} {m : MethodId} {args : Array Value} {below : List Frame} {meth : Method} {c : Code} {Q : State → Prop} {cc : ByteArray} {mi : Nat}
theorem ai_KR.step {ρ ρ1 : ai_A → Nat} {h h1 h' : ai_H} {cells slots cells1 slots1 : Nat} {o : ai_O} (k : ai_KR cl P mi D dA b0 p l e R s m args below meth c Q cc ρ h cells slots o h') (x : ai_ex h ρ h1 ρ1) (hc : cells1 + h.2.2.1 = cells + h1.2.2.1) (hs : slots1 + h.2.2.2 = slots + h1.2.2.2) : ai_KR cl P mi D dA b0 p l e R s m args below meth c Q cc ρ1 h1 cells1 slots1 o h' :=
  fun w ρ' H' locs' cells' slots' lsB pc' ins a1 a2 a3 a4 a5 a6 a7 => k w ρ' H' locs' cells' slots' lsB pc' ins a1 (x.trans a2) a3 a4 a5 (by omega) (by omega)
theorem ai_KT.step {ρ ρ1 : ai_A → Nat} {h h1 h' : ai_H} {cells slots cells1 slots1 : Nat} {o : ai_O} (k : ai_KT cl D dA b0 ex s below Q ρ h cells slots o h') (x : ai_ex h ρ h1 ρ1) (hc : cells1 + h.2.2.1 = cells + h1.2.2.1) (hs : slots1 + h.2.2.2 = slots + h1.2.2.2) : ai_KT cl D dA b0 ex s below Q ρ1 h1 cells1 slots1 o h' :=
  fun y t q ce ρ' locs' cells' slots' a1 a2 a3 a4 a5 a6 a7 a8 a9 a10 a11 a12 a13 a14 => k y t q ce ρ' locs' cells' slots' a1 a2 a3 a4 a5 a6 (x.trans a7) a8 a9 a10 a11 a12 (by omega) (by omega)
theorem ai_xz.moved {u U : State} (k : ai_xz b0 u) (hvm : u.vm.Alike U.vm) (hh : ∀ q, q < b0 → U.heap[q]? = u.heap[q]?) : ai_xz b0 U := ⟨k.1.moved hvm hh, k.2.moved hvm hh⟩
/-- the handlers of a method, as its words say -/
theorem ai_cov_out {hh : List (Nat × Nat × Nat × Nat)} {tb : List ExceptionTableEntry} {pc : Nat} (ht : tb.map (fun x => (x.startPc, x.endPc, x.handlerPc, x.catchType)) = hh) (h : ∀ q ∈ hh, ai_cov q pc = false) : ∀ x ∈ tb, covers x pc = false := by
  intro x hx
  have := h (x.startPc, x.endPc, x.handlerPc, x.catchType) (by rw [← ht]; exact List.mem_map.mpr ⟨x, hx, rfl⟩)
  exact this
theorem ai_tk_row {own E : String} {b : Bool} {x : ExceptionTableEntry} {pc : Nat} (hts : ∀ w ∈ Ts, w.before args s = true) (h : ai_tk Ts own E (x.startPc, x.endPc, x.handlerPc, x.catchType) b) : ai_row own E args s pc x b := by
  obtain ⟨h0, nm, h1, h2⟩ := h
  refine ⟨h0, nm, hts _ h1, ?_⟩
  rcases h2 with ⟨rfl, h2⟩ | ⟨rfl, h2⟩
  · obtain ⟨c3, c4, hc3, hc4, ha⟩ := Cond.castable_spec (hts _ h2)
    exact ⟨c3, c4, hc3, hc4, ha⟩
  · have hv := hts _ h2
    simp only [Cond.before, Cond.holds, Cond.value] at hv
    cases ha : s.vm.findClass E with
    | none => simp [ha] at hv
    | some c3 =>
      cases hb : s.vm.findClass nm with
      | none => simp [ha, hb] at hv
      | some c4 =>
        simp only [ha, hb] at hv
        refine ⟨c3, c4, rfl, rfl, ?_⟩
        cases hz : s.vm.assignable c3 c4
        · rfl
        · simp [hz] at hv
set_option maxHeartbeats 8000000 in
theorem ai_frame (hgood : ∀ w ∈ Ts, ai_good w = true) (hcl : ai_clok Ts cl P.2.2.2.2.2.1) (hasg : ai_aok Ts cl P.2.2.2.2.1 P.2.2.2.2.2.2) (hmo : ai_mok Ts cl P M ex)
    {y : MethodName} {hh : List (Nat × Nat × Nat × Nat)} (rows : ∀ pc r, P.1 mi pc = some r → ai_rok Ts cl P M ex mi y cc hh pc r)
    (hx : p.tables.exec = Jvm.exec) (hb : c.code = cc) (hml : c.maxLocals = (P.2.2.1 mi).1) (hown : s.vm.findClass y.cls = some m.cls) (hts : ∀ w ∈ Ts, w.before args s = true) (hlocks : meth.locks = false) (hname : meth.name = y.name) (htab : c.exceptionTable.toList.map (fun x => (x.startPc, x.endPc, x.handlerPc, x.catchType)) = hh)
    (hK : va_K D cl (ai_tys dA P.2.2.2.2.1) s) (hB0 : b0 ≤ s.heap.size) (hl : l.stackTraces = false) (hz : ai_xz b0 s)
    {d : Nat} (hRf : d + 13 ≤ R.frames) (hRl : 64 * d + 364 ≤ R.locals) {call : Nat → List ai_V → ai_H → Option (ai_O × ai_H)} (hmono : ∀ mi av h o h', call mi av h = some (o, h') → h.2.2.1 ≤ h'.2.2.1 ∧ h.2.2.2 ≤ h'.2.2.2)
    (IH : ∀ mi' y' cc' hh', M mi' = some (y', cc', hh') → ∀ av h o h', call mi' av h = some (o, h') → ∀ ρ, ai_Met l y' Ts (ai_rm d h h') (ai_Pre cl P.2.2.2.2.1 D dA b0 L xs ρ h av) (fun q => b0 ≤ q) (ai_Qr cl D dA b0 ρ h o h') (ai_Qt cl D dA b0 ex ρ h o h')) :
    ∀ n pc ls st h o h', ai_run P L xs call mi n pc ls st h = some (o, h') → ∀ (ρ : ai_A → Nat) (H : Heap) (locs : List Loc) (cells slots : Nat) (lsA : Array Slot), ai_R D cl dA (fun q => b0 ≤ q) ρ h H → va_S (fun q => b0 ≤ q) s.heap H locs → ai_lr ρ ls lsA → ls.length = (P.2.2.1 mi).1 → (∀ v ∈ st, ai_ok h v) → (∀ v, some v ∈ ls → ai_ok h v) → ai_scr b0 L xs ρ h s →
      cells + h'.2.2.1 ≤ R.cells + h.2.2.1 → slots + h'.2.2.2 ≤ R.slots + h.2.2.2 → ai_KR cl P mi D dA b0 p l e R s m args below meth c Q cc ρ h cells slots o h' → ai_KT cl D dA b0 ex s below Q ρ h cells slots o h' →
      W p l e R s m args below meth c H locs cells slots Q (F0 m pc lsA (st.map (ai_v ρ))) := by
  intro n
  induction n with
  | zero => intro pc ls st h o h' hr; cases hr
  | succ n ih =>
    intro pc ls st h o h' hr ρ H locs cells slots lsA hR hS hlr hlen hst hls hsc hrc hrs kr kt
    have hsz : lsA.size = c.maxLocals := by rw [hlr.size, hlen, hml]
    have hBB : ∀ q, s.heap.size ≤ q → b0 ≤ q := fun q z => Nat.le_trans hB0 z
    have hlow : ∀ q, q < b0 → H[q]? = s.heap[q]? := fun q z => hS.2.1 q (by omega) (by omega)
    unfold ai_run at hr
    split at hr
    · cases hr
    rename_i kd ins ks hrow
    obtain ⟨len, hd, hlok, hj, hh3, hc4, ht6, ho7, hx8, hx9, hx10⟩ := rows pc _ hrow
    split at hr
    · -- the stack alone
      split at hr
      · rename_i st' hp
        have := ai_pure_len hp hlok
        subst this
        exact ai_pure_W hx hb hp hd (ih _ _ _ _ _ _ hr ρ H locs cells slots lsA hR hS hlr hlen (ai_pure_ok hp hst) hls hsc hrc hrs kr kt)
      · cases hr
    · -- jumps
      split at hr
      · rename_i pc' st' hp
        exact ai_jmp_W hx hb hp (hj rfl) hd hlok (ih _ _ _ _ _ _ hr ρ H locs cells slots lsA hR hS hlr hlen (ai_jmp_ok hp hst) hls hsc hrc hrs kr kt)
      · cases hr
    · -- locals
      split at hr
      · rename_i ls' st' hp
        have := ai_loc_len hp hlok
        subst this
        obtain ⟨q1, q2, q3⟩ := ai_loc_ok hp hst hls
        exact ai_loc_W hx hb hp hd hlr (fun lsB hlB => ih _ _ _ _ _ _ hr ρ H locs cells slots lsB hR hS hlB (q1.trans hlen) q2 q3 hsc hrc hrs kr kt)
      · cases hr
    · -- the heap
      split at hr
      · rename_i st' h1 hp
        have := ai_heap_len hp hlok
        subst this
        have m1 := ai_run_mono hmono _ _ _ _ _ _ _ hr
        have hok := hh3 rfl
        rw [← hname] at hok
        refine ai_heap_W hx hb hts hown hcl hasg hK hR hS hBB (L := L) (xs := xs) (fun a ha => ⟨(hsc.1 a ha).1, Nat.lt_of_lt_of_le (hsc.1 a ha).2 hB0, Nat.not_le.mpr (hsc.1 a ha).2⟩) (fun a ha => (hsc.2.1 a ha).2) hst hp hok hd (by omega) (by omega) (fun ρ' H' locs' cells' slots' x1 x2 x3 x4 x5 x6 x7 x8 => ?_)
        have hex : ai_ex h ρ h1 ρ' := ⟨x1, x5, fun b k _ => x6 b k⟩
        exact ih _ _ _ _ _ _ hr ρ' H' locs' cells' slots' lsA x2 x3 (hlr.ext hls x1) hlen x4 (fun v hv => hex.ok (hls v hv)) (hsc.step hex) (by omega) (by omega) (kr.step hex x7 x8) (kt.step hex x7 x8)
      · cases hr
    · -- calls
      obtain ⟨rfl, hhn, y', cc', hh', nn, hM, hnn, hiok⟩ := hc4 rfl
      obtain ⟨pl1, pl2, pl3, pl4, pl5, pl6, -⟩ := hmo _ _ _ _ hM
      split at hr
      · rename_i av r hp
        obtain ⟨a1, a2, a3, -, -⟩ := ai_args_spec hp
        have hav : ∀ v ∈ av, ai_ok h v := fun v hv => hst v (by rw [a1]; exact List.mem_append_left _ (List.mem_reverse.mpr hv))
        have hrr : ∀ v ∈ r, ai_ok h v := fun v hv => hst v (by rw [a1]; exact List.mem_append_right _ hv)
        -- whatever the call comes to
        have go : ∀ (o1 : ai_O) (h1 : ai_H), call (ks.getD 0 0) av h = some (o1, h1) → h1.2.2.1 ≤ h'.2.2.1 → h1.2.2.2 ≤ h'.2.2.2 →
            (∀ (w : Option ai_V) (ρ1 : ai_A → Nat) (H1 : Heap) (locs1 : List Loc), o1 = .inl w → ai_ex h ρ h1 ρ1 → ai_R D cl dA (fun q => b0 ≤ q) ρ1 h1 H1 → (∀ x, w = some x → ai_ok h1 x) → va_S (fun q => b0 ≤ q) s.heap H1 locs1 → W p l e R s m args below meth c H1 locs1 (cells + (ai_rm d h h1).cells) (slots + (ai_rm d h h1).slots) Q (F0 m (pc + 3) lsA (w.toList.map (ai_v ρ1) ++ r.map (ai_v ρ1)))) →
            (∀ (x : Nat) (ρ1 : ai_A → Nat) (T1 : State) (locs1 : List Loc) (q : Addr) (ce : Cell), o1 = .inr x → ai_ex h ρ h1 ρ1 → ai_R D cl dA (fun q => b0 ≤ q) ρ1 h1 T1.heap → va_S (fun q => b0 ≤ q) s.heap T1.heap locs1 → T1.heap[q]? = some ce → ce.vm = .none → s.vm.findClass (ex x) = some ce.cls → Stand p l e R s m args below meth c T1 locs1 (cells + (ai_rm d h h1).cells) (slots + (ai_rm d h h1).slots) → ∃ t, Steps p.tables e below ((T1.setTop (F0 m pc lsA (r.map (ai_v ρ)))).pushFrame (.throwing q)) t ∧ Q t) →
            W p l e R s m args below meth c H locs cells slots Q (F0 m pc lsA (st.map (ai_v ρ))) := by
          intro o1 h1 hcall hm1 hm2 kA kB T hT X
          have hme := hmono _ _ _ _ _ hcall
          have hMet := IH _ _ _ _ hM av h o1 h1 hcall ρ
          obtain ⟨mk, vm₁, hnm, hW₁, X₁, hgo⟩ := ai_find X hx hb hts hown hK hT hR (lsA := lsA) hp hiok hnn pl4 pl5 pl2 pl3 hd
          have hwU : ∀ (a' : Array Value), ∀ w ∈ Ts, w.before a' (T.setVm vm₁) = true := fun a' w hw => ai_word (U := T.setVm vm₁) hW₁ (hgood w hw) (hts w hw)
          have hnU : (T.setVm vm₁).methodNamed? y' = some mk := X₁.named hnm
          have hcode : ai_Code (T.setVm vm₁) mk (P.2.2.1 (ks.getD 0 0)).1 := by
            obtain ⟨mk', methY, cd, g1, g2, g3, g4, g5, -⟩ := ai_cw_spec (hwU #[]) pl4
            cases hnU.symm.trans g1
            obtain ⟨kY, hkY, -⟩ := className_of_methodNamed hnU
            exact ⟨methY, cd, kY, g2, g3, g5, hkY, Cond.initialized_spec (findClass_of_methodNamed hnU) hkY (hwU #[] _ pl2)⟩
          have hlowT : ∀ q, q < b0 → (T.setVm vm₁).heap[q]? = s.heap[q]? := fun q z => by
            show T.heap[q]? = _
            rw [hT]; exact hlow q z
          have hPc : ai_Pre cl P.2.2.2.2.1 D dA b0 L xs ρ h av (av.map (ai_v ρ)).toArray ((T.setVm vm₁).calling (F0 m pc lsA (r.map (ai_v ρ))) mk (av.map (ai_v ρ)).toArray) := by
            refine ⟨rfl, ?_, va_K.moved (U := (T.setVm vm₁).calling (F0 m pc lsA (r.map (ai_v ρ))) mk (av.map (ai_v ρ)).toArray) hW₁.alike hK, ?_, hav, hsc.moved (U := (T.setVm vm₁).calling (F0 m pc lsA (r.map (ai_v ρ))) mk (av.map (ai_v ρ)).toArray) hW₁.alike hlowT, hz.moved (U := (T.setVm vm₁).calling (F0 m pc lsA (r.map (ai_v ρ))) mk (av.map (ai_v ρ)).toArray) hW₁.alike hlowT⟩
            · show ai_R D cl dA (fun q => b0 ≤ q) ρ h T.heap
              rw [hT]; exact hR
            · show b0 ≤ T.heap.size
              rw [hT]; exact Nat.le_trans hB0 hS.1
          have hq1 : (ai_rm d h h1).frames + 1 ≤ R.frames := by rw [ai_rm_f]; omega
          have hq2 : 8 + ((P.2.2.1 (ks.getD 0 0)).1 + 11) + (ai_rm d h h1).locals ≤ R.locals := by rw [ai_rm_l]; exact ai_rm_r pl6 hRl
          have hq3 : cells + (ai_rm d h h1).cells ≤ R.cells := by rw [ai_rm_c]; omega
          have hq4 : slots + (ai_rm d h h1).slots ≤ R.slots := by rw [ai_rm_s]; omega
          obtain ⟨T1, t, st₀, L1, e1, e2, e3, e4, hL1, X', hor⟩ := ai_enter hMet X₁ (g := F0 m pc lsA (r.map (ai_v ρ))) rfl hsz (by rw [hb]; exact hd) (by show 2 * 0 + _ ≤ 8; rw [ai_wt_eq]; omega) hnU hcode (hwU _) hPc hq1 hq2 hq3 hq4
          have hst0 : st₀.heap = H := e1.trans hT
          have keepS : va_F (fun q => b0 ≤ q) st₀ t → va_S (fun q => b0 ≤ q) s.heap T1.heap (locs ++ L1) := by
            intro hF
            refine ⟨by rw [e3]; exact Nat.le_trans hS.1 (by rw [← hst0]; exact hF.1), fun q q1 q2 => ?_, fun z hz9 => ?_⟩
            · rw [e3, hF.2 q (by rw [hst0]; exact Nat.lt_of_lt_of_le q1 hS.1) q2, hst0]
              exact hS.2.1 q q1 q2
            · rcases List.mem_append.mp hz9 with z1 | z1
              · exact hS.2.2 z z1
              · exact hL1 z z1
          rcases hor with ⟨v, ⟨ρ1, w, r1, r2, r3, r4, r5, r6⟩, hsteps⟩ | ⟨q, ⟨ρ1, x, ce, r1, r3, r4, r6, r7, r8, r9⟩, hsteps⟩
          · obtain ⟨t2, b1, b2⟩ := kA w ρ1 T1.heap (locs ++ L1) r1 r3 (by rw [e3]; exact r4) r5 (keepS r6) T1 rfl X'
            refine ⟨t2, hgo _ (hsteps.trans ?_), b2⟩
            have hv : v.toList ++ r.map (ai_v ρ) = w.toList.map (ai_v ρ1) ++ r.map (ai_v ρ1) := by
              rw [r2, ai_vs_ext r3.1 hrr]
              cases w <;> rfl
            show Steps p.tables e below (T1.setTop (F0 m (pc + 3) lsA (v.toList ++ r.map (ai_v ρ)))) t2
            rw [hv]
            exact b1
          · have hfc : s.vm.findClass (ex x) = some ce.cls := by
              have z9 : st₀.vm.findClass (ex x) = some ce.cls := r9
              rw [e2] at z9
              have := hW₁.alike.findClass (ex x)
              rw [← this]
              exact z9
            obtain ⟨t2, b1, b2⟩ := kB x ρ1 T1 (locs ++ L1) q ce r1 r3 (by rw [e3]; exact r4) (keepS r6) (by rw [e3]; exact r7) r8 hfc X'
            exact ⟨t2, hgo _ (hsteps.trans b1), b2⟩
        split at hr
        · rename_i v h1 hcall
          have m1 := ai_run_mono hmono _ _ _ _ _ _ _ hr
          have m0 := hmono _ _ _ _ _ hcall
          refine go _ h1 hcall m1.1 m1.2 (fun w ρ1 H1 locs1 w1 w2 w3 w4 w5 => ?_) (fun x ρ1 T1 locs1 q ce w1 => (nomatch w1))
          cases w1
          have hcc : cells + (ai_rm d h h1).cells + h.2.2.1 = cells + h1.2.2.1 := by show cells + (h1.2.2.1 - h.2.2.1) + h.2.2.1 = _; omega
          have hss : slots + (ai_rm d h h1).slots + h.2.2.2 = slots + h1.2.2.2 := by show slots + (h1.2.2.2 - h.2.2.2) + h.2.2.2 = _; omega
          have := ih _ _ _ _ _ _ hr ρ1 H1 locs1 _ _ lsA w3 w5 (hlr.ext hls w2.1) hlen (fun x hx9 => by
            rcases List.mem_append.mp hx9 with z | z
            · exact w4 x (by simpa using z)
            · exact w2.ok (hrr x z)) (fun x hx9 => w2.ok (hls x hx9)) (hsc.step w2) (by omega) (by omega) (kr.step w2 hcc hss) (kt.step w2 hcc hss)
          rw [List.map_append] at this
          exact this
        · rename_i x h1 hcall
          have m0 := hmono _ _ _ _ _ hcall
          have hcc : cells + (ai_rm d h h1).cells + h.2.2.1 = cells + h1.2.2.1 := by show cells + (h1.2.2.1 - h.2.2.1) + h.2.2.1 = _; omega
          have hss : slots + (ai_rm d h h1).slots + h.2.2.2 = slots + h1.2.2.2 := by show slots + (h1.2.2.2 - h.2.2.2) + h.2.2.2 = _; omega
          split at hr
          · rename_i pc' hpc'
            split at hr
            · rename_i hne
              have hne : h1.1 (1, h1.2.1 1) = none := by simpa using hne
              have m1 := ai_run_mono hmono _ _ _ _ _ _ _ hr
              simp only [ai_exc] at m1
              refine go _ h1 hcall m1.1 m1.2 (fun w ρ1 H1 locs1 w1 => (nomatch w1)) (fun x' ρ1 T1 locs1 q ce w1 w2 w3 w5 w6 w7 w8 X1 => ?_)
              cases w1
              obtain ⟨pre, qq, suf, g1, g2, g3, g4, g5⟩ := hhn.2 x pc' hpc'
              rw [← htab] at g1
              obtain ⟨pre', q', suf', f1, f2, f3, f4⟩ : ∃ pre' q' suf', c.exceptionTable.toList = pre' ++ q' :: suf' ∧ pre'.map (fun x => (x.startPc, x.endPc, x.handlerPc, x.catchType)) = pre ∧ (q'.startPc, q'.endPc, q'.handlerPc, q'.catchType) = qq ∧ suf'.map (fun x => (x.startPc, x.endPc, x.handlerPc, x.catchType)) = suf := by
                obtain ⟨l1, l2, e1, e2, e3⟩ := List.map_eq_append_iff.mp g1
                obtain ⟨q', l3, e4, e5, e6⟩ := List.map_eq_cons_iff.mp e3
                exact ⟨l1, q', l3, by rw [e1, e4], e2, e5, e6⟩
              subst f3
              obtain ⟨vm', X2, st2⟩ := ai_catch X1 hown (g := F0 m pc lsA (r.map (ai_v ρ))) rfl w6 w7 w8 pre' q' suf' f1 (fun z hz9 => by
                rcases g5 (z.startPc, z.endPc, z.handlerPc, z.catchType) (by rw [← f2]; exact List.mem_map.mpr ⟨z, hz9, rfl⟩) with g | g
                · exact Or.inl g
                · exact Or.inr (ai_tk_row hts g)) g3 (ai_tk_row hts g4)
              obtain ⟨hR2, hex2⟩ := w3.exc (q := q) hne
              have hall := w2.trans hex2
              have := ih _ _ _ _ _ _ hr _ T1.heap locs1 _ _ lsA hR2 w5 (hlr.ext hls hall.1) hlen (ai_oks (ai_ok_ref (by simp [ai_exc, ai_upd])) (fun _ z => (nomatch z))) (fun v hv => hall.ok (hls v hv)) (hsc.step hall) (by show _ + h'.2.2.1 ≤ R.cells + h1.2.2.1; omega) (by show _ + h'.2.2.2 ≤ R.slots + h1.2.2.2; omega) (kr.step hall hcc hss) (kt.step hall hcc hss)
              obtain ⟨t2, b1, b2⟩ := this (T1.setVm vm') rfl X2
              refine ⟨t2, st2 t2 ?_, b2⟩
              have hq : ai_v (ai_at ρ1 (1, h1.2.1 1) q) (.inr (.inr (some (1, h1.2.1 1)))) = .ref q := by simp [ai_v, ai_at]
              rw [List.map_cons, List.map_nil, hq, ← g2] at b1
              exact b1
            · cases hr
          · rename_i hpc'
            cases hr
            refine go _ _ hcall (Nat.le_refl _) (Nat.le_refl _) (fun w ρ1 H1 locs1 w1 => (nomatch w1)) (fun x' ρ1 T1 locs1 q ce w1 w2 w3 w5 w6 w7 w8 X1 => ?_)
            cases w1
            obtain ⟨st2, hrun, hend, hW2, hsm⟩ := X1.leaveThrown q (g := F0 m pc lsA (r.map (ai_v ρ))) rfl rfl rfl (ai_cov_out htab (hhn.1 x hpc')) hlocks
            have hh9 : (T1.setFrames (.throwing q :: below)).heap = T1.heap := rfl
            exact ⟨_, st2, kt x _ q ce ρ1 locs1 _ _ rfl hrun hend hW2 hsm w5.2.2 w2 w3 (w5.F hh9) w6 w7 w8 hcc hss⟩
          · cases hr
        · cases hr
      · cases hr
    · -- the end
      split at hr
      · rename_i w hp
        cases hr
        have key : st = w.toList ∧ (∀ x, w = some x → ai_ok h x) ∧ len = 1 := by
          cases ins <;> simp only [ai_ret] at hp <;> first
            | (cases hp; done)
            | (have hl1 : len = 1 := by simpa [ai_lok, ai_len] using hlok
               repeat' split at hp
               all_goals first
                 | (cases hp; done)
                 | (cases hp; refine ⟨rfl, ?_, hl1⟩; intro x z; cases z; done)
                 | (cases hp; refine ⟨rfl, ?_, hl1⟩; intro x z; cases z; exact hst _ List.mem_cons_self))
        obtain ⟨k1, k2, rfl⟩ := key
        subst k1
        exact kr w ρ H locs cells slots lsA pc ins rfl ai_ex.refl hR hS k2 rfl rfl hd hp
      · cases hr
    · -- an exception is made and thrown
      split at hr
      · rename_i hw8
        cases hr
        obtain ⟨rfl, ik, ic, ns, t1, t2, t3, t4, t5, t6, t7⟩ := ht6 rfl
        simp only at t1
        subst t1
        have hrc' : cells + 1 ≤ R.cells := by
          have : cells + (h.2.2.1 + 1) ≤ R.cells + h.2.2.1 := hrc
          omega
        have hrs' : slots + 6 ≤ R.slots := by
          have : slots + (h.2.2.2 + 6) ≤ R.slots + h.2.2.2 := hrs
          omega
        refine ai_throw_W (b := b0) hx hb hl hown hts t2 hz.1 hz.2 hlow hsz hd t4 t5 t6 (ai_cov_out htab t7) hlocks (by omega) (by rw [ai_wt_eq]; omega) hrc' hrs' (fun t q ce z1 z2 z3 z4 z5 z6 z7 z8 z9 => ?_)
        refine kt _ t q ce ρ locs _ _ rfl z1 z2 z3 z4 hS.2.2 ⟨fun _ _ => rfl, fun _ z => z, fun _ _ _ z => z⟩ ?_ ⟨Nat.le_trans hS.1 z5, fun q q1 q2 => ?_⟩ z7 z8 z9 (by show cells + 1 + h.2.2.1 = cells + (h.2.2.1 + 1); omega) (by show slots + 6 + h.2.2.2 = slots + (h.2.2.2 + 6); omega)
        · obtain ⟨dom, h1, hP, hD, hc⟩ := hR
          exact ⟨dom, h1, hP.kept (fun k x hk => z6 _ ((hP k x hk).lt)), hD, hc⟩
        · rw [z6 q (Nat.lt_of_lt_of_le q1 hS.1)]
          exact hS.2.1 q q1 q2
      · cases hr
    · -- Object's constructor
      split at hr
      · rename_i a r
        split at hr
        · rename_i hw8
          obtain ⟨rfl, idx, t1, t2, t3, t4⟩ := ho7 rfl
          simp only at t1
          subst t1
          exact W.objInit hx hb hown (hts _ t2) (hts _ t3) (hts _ t4) (g := F0 m pc lsA ((.inr (.inr (some a)) :: r).map (ai_v ρ))) rfl hsz rfl hd (by omega) (by show 2 * 0 + _ + 12 ≤ _; rw [ai_wt_eq]; omega) (ih _ _ _ _ _ _ hr ρ H locs cells slots lsA hR hS hlr hlen (ai_okt hst) hls hsc hrc hrs kr kt)
        · cases hr
      · cases hr
    · -- Math.max
      split at hr
      · rename_i y9 x9 r
        split at hr
        · rename_i hw8
          obtain ⟨rfl, idx, t1, t2, t3, t4, t5⟩ := hx8 rfl
          simp only at t1
          subst t1
          have m1 := ai_run_mono hmono _ _ _ _ _ _ _ hr
          exact va_mmax hx hb hsz.symm hown (hts _ t2) (hts _ t3) (hts _ t4) (hts _ t5) (by omega) (by rw [ai_wt_eq]; omega) (by omega) (by omega) hd (ih _ _ _ _ _ _ hr ρ H locs cells slots lsA hR hS hlr hlen (ai_oks ai_ok_int (ai_okt (ai_okt hst))) hls hsc hrc hrs kr kt)
        · cases hr
      · cases hr
    · -- Math.min
      split at hr
      · rename_i y9 x9 r
        split at hr
        · rename_i hw8
          obtain ⟨rfl, idx, t1, t2, t3, t4, t5⟩ := hx9 rfl
          simp only at t1
          subst t1
          have m1 := ai_run_mono hmono _ _ _ _ _ _ _ hr
          exact va_mmin hx hb hsz.symm hown (hts _ t2) (hts _ t3) (hts _ t4) (hts _ t5) (by omega) (by rw [ai_wt_eq]; omega) (by omega) (by omega) hd (ih _ _ _ _ _ _ hr ρ H locs cells slots lsA hR hS hlr hlen (ai_oks ai_ok_int (ai_okt (ai_okt hst))) hls hsc hrc hrs kr kt)
        · cases hr
      · cases hr
    · -- the library's own
      split at hr
      · rename_i pc' st' h1 hp
        refine ai_ext_W hx hb hsz.symm hts hown hcl hasg hK hR hS hsc hst hp (hx10 rfl) hd (by omega) (by omega) (fun H' locs' x1 x2 x3 x4 x5 => ?_)
        have e1 : h1.2.2.1 = h.2.2.1 := by rw [x5]
        have e2 : h1.2.2.2 = h.2.2.2 := by rw [x5]
        exact ih _ _ _ _ _ _ hr ρ H' locs' cells slots lsA x2 x3 hlr hlen x4 (fun v hv => x1.ok (hls v hv)) (hsc.step x1) (by omega) (by omega) (kr.step x1 (by omega) (by omega)) (kt.step x1 (by omega) (by omega))
      · cases hr
    · cases hr
end AIM
end
section
/-! All methods: what a run of the abstract machine comes to, the real one comes to. -/
theorem ai_ent_len {ρ : ai_A → Nat} : ∀ av : List ai_V, (lg_sl (av.map (ai_v ρ))).length = (ai_ent av).length
  | [] => rfl
  | v :: vs => by
    have ih := ai_ent_len (ρ := ρ) vs
    have e9 : lg_sl ((v :: vs).map (ai_v ρ)) = (if (ai_v ρ v).category = 2 then [.val (ai_v ρ v), .second] else [.val (ai_v ρ v)]) ++ lg_sl (vs.map (ai_v ρ)) := rfl
    rw [e9, List.length_append, ih]
    rcases v with x | x | _ | a <;> simp [ai_v, Value.category, ai_ent, ai_two] <;> omega
theorem ai_ent_at {ρ : ai_A → Nat} : ∀ (av : List ai_V) (i k : Nat) (v : ai_V), (ai_ent av)[k]? = some (some v) → (i + k, ai_v ρ v) ∈ lv_args i (av.map (ai_v ρ))
  | [], _, _, _, h => by simp [ai_ent] at h
  | u :: vs, i, k, v, h => by
    by_cases hu : ai_two u = true
    · have hc : (ai_v ρ u).category = 2 := by
        rcases u with x | x | _ | a <;> first | rfl | (cases hu; done)
      simp only [ai_ent] at h
      rw [if_pos hu] at h
      simp only [List.map_cons, lv_args, hc, if_true]
      cases k with
      | zero =>
        simp only [List.getElem?_cons_zero, Option.some.injEq] at h
        rw [h]
        exact List.mem_cons_self
      | succ k =>
        cases k with
        | zero => simp at h
        | succ k =>
          simp only [List.getElem?_cons_succ] at h
          have := ai_ent_at (ρ := ρ) vs (i + 2) k v h
          rw [show i + (k + 1 + 1) = i + 2 + k by omega]
          exact List.mem_cons_of_mem _ this
    · have hc : ¬ (ai_v ρ u).category = 2 := by
        rw [ai_cat1 (by simpa using hu)]
        decide
      simp only [ai_ent] at h
      rw [if_neg hu] at h
      simp only [List.map_cons, lv_args, hc, if_false]
      cases k with
      | zero =>
        simp only [List.getElem?_cons_zero, Option.some.injEq] at h
        rw [h]
        exact List.mem_cons_self
      | succ k =>
        simp only [List.getElem?_cons_succ] at h
        have := ai_ent_at (ρ := ρ) vs (i + 1) k v h
        rw [show i + (k + 1) = i + 1 + k by omega]
        exact List.mem_cons_of_mem _ this
theorem ai_ent_lr {ρ : ai_A → Nat} {av : List ai_V} {n : Nat} (hn : (ai_ent av).length ≤ n) : ai_lr ρ (ai_ent av ++ List.replicate (n - (ai_ent av).length) none) ((lg_sl (av.map (ai_v ρ)) ++ List.replicate (n - (lg_sl (av.map (ai_v ρ))).length) Slot.unset).toArray) := by
  have hl := lv_entry (av.map (ai_v ρ)) (n := n) (by rw [ai_ent_len]; exact hn)
  refine ⟨lv_args 0 (av.map (ai_v ρ)), ?_, fun k v hk => ?_⟩
  · have e1 : (ai_ent av ++ List.replicate (n - (ai_ent av).length) (none : Option ai_V)).length = n := by simp; omega
    rw [e1]
    exact hl
  · have hk' : (ai_ent av)[k]? = some (some v) := by
      by_cases hlt : k < (ai_ent av).length
      · rw [List.getElem?_append_left hlt] at hk
        exact hk
      · rw [List.getElem?_append_right (by omega), List.getElem?_replicate] at hk
        split at hk <;> cases hk
    have := ai_ent_at (ρ := ρ) av 0 k v hk'
    rw [Nat.zero_add] at this
    exact this
theorem ai_ent_ok {h : ai_H} : ∀ {av : List ai_V}, (∀ v ∈ av, ai_ok h v) → ∀ v, some v ∈ ai_ent av → ai_ok h v
  | [], _, v, hv => by simp [ai_ent] at hv
  | u :: vs, hs, v, hv => by
    have ih := ai_ent_ok (ai_okt hs) v
    unfold ai_ent at hv
    split at hv
    · simp only [List.mem_cons] at hv
      rcases hv with z | z | z
      · cases z; exact hs _ List.mem_cons_self
      · cases z
      · exact ih z
    · simp only [List.mem_cons] at hv
      rcases hv with z | z
      · cases z; exact hs _ List.mem_cons_self
      · exact ih z
theorem ai_W_mono {p : Program} {l : Launch} {e : Env} {R : Room} {s : State} {m : MethodId} {args : Array Value} {below : List Frame} {meth : Method} {c : Code} {H : Heap} {locs : List Loc} {cells slots : Nat} {Q Q' : State → Prop} {g : JFrame} (hq : ∀ t, Q t → Q' t) (k : W p l e R s m args below meth c H locs cells slots Q g) : W p l e R s m args below meth c H locs cells slots Q' g := by
  intro T hT X
  obtain ⟨t, a, b⟩ := k T hT X
  exact ⟨t, a, hq t b⟩
def ai_Qf (below : List Frame) (B : Nat → Prop) (mc ms : Nat) (Qr : State → Option Value → State → Prop) (Qt : State → Addr → State → Prop) (args : Array Value) (s : State) : State → Prop := fun t => ∃ o', t.status = .running ∧ Ended t below o' ∧ ai_End B mc ms Qr Qt args s o' t
section AIS
variable {Ts : List Cond} {cl : List vw_C} {P : ai_P} {M : ai_M} {ex : Nat → String} {D : va_G} {dA : Nat → ClassId} {b0 L : Nat} {xs : Nat → Int32}
set_option maxHeartbeats 4000000 in
theorem ai_sound (hgood : ∀ w ∈ Ts, ai_good w = true) (hcl : ai_clok Ts cl P.2.2.2.2.2.1) (hasg : ai_aok Ts cl P.2.2.2.2.1 P.2.2.2.2.2.2) (hmo : ai_mok Ts cl P M ex) (l : Launch) (hl : l.stackTraces = false) (N : Nat) :
    ∀ d mi y cc hh, M mi = some (y, cc, hh) → ∀ av h o h', ai_call P L xs N d mi av h = some (o, h') → ∀ ρ, ai_Met l y Ts (ai_rm d h h') (ai_Pre cl P.2.2.2.2.1 D dA b0 L xs ρ h av) (fun q => b0 ≤ q) (ai_Qr cl D dA b0 ρ h o h') (ai_Qt cl D dA b0 ex ρ h o h') := by
  intro d
  induction d with
  | zero => intro mi y cc hh _ av h o h' hc; cases hc
  | succ d ihd =>
    intro mi y cc hh hM av h o h' hc ρ
    unfold ai_call at hc
    split at hc
    · rename_i hfit
      obtain ⟨pl1, pl2, pl3, pl4, pl5, pl6, rows⟩ := hmo _ _ _ _ hM
      have hm := ai_run_mono (ai_call_mono d) _ _ _ _ _ _ _ hc
      refine MetFree.of_bodySF (code := cc) (maxLocals := (P.2.2.1 mi).1) (ret := (P.2.2.1 mi).2) pl1 ?_ ?_
      · intro args s m hpre hn
        obtain ⟨mk, methY, cd, g1, g2, g3, g4, g5, g6, g7, g8, g9⟩ := ai_cw_spec (atoms_spec (ws := Ts) hpre) pl4
        cases hn.symm.trans g1
        exact ⟨methY, cd, g2, g3, g4, g5, g7, g8⟩
      · intro p e s m args below meth c s₁ Bd hml hP _
        obtain ⟨rfl, hR, hK, hB0, hav, hsc, hz⟩ := hP
        have hts := atoms_spec (ws := Ts) Bd.pre
        have hown : s.vm.findClass y.cls = some m.cls := findClass_of_methodNamed Bd.named
        have hh0 : s₁.heap = s.heap := by rw [Bd.state]; rfl
        have X₀ := Stand.of_body Bd
        have htab : c.exceptionTable.toList.map (fun x => (x.startPc, x.endPc, x.handlerPc, x.catchType)) = hh := by
          obtain ⟨mk, methY, cd, g1, g2, g3, g4, g5, g6, -⟩ := ai_cw_spec hts pl4
          cases Bd.named.symm.trans g1
          cases Bd.method.symm.trans g2
          cases X₀.code.symm.trans g3
          exact g6
        have kr : ai_KR cl P mi D dA b0 p l e (ai_rm (d + 1) h h') s m (av.map (ai_v ρ)).toArray below meth c (ai_Qf below (fun q => b0 ≤ q) (ai_rm (d + 1) h h').cells (ai_rm (d + 1) h h').slots (ai_Qr cl D dA b0 ρ h o h') (ai_Qt cl D dA b0 ex ρ h o h') (av.map (ai_v ρ)).toArray s) cc ρ h 0 0 o h' := by
          intro w ρ' H' locs' cells' slots' lsB pc' ins w1 w2 w3 w4 w5 w6 w7 w8 w9
          have hcells : cells' = (ai_rm (d + 1) h h').cells := by show cells' = h'.2.2.1 - h.2.2.1; omega
          have hslots : slots' = (ai_rm (d + 1) h h').slots := by show slots' = h'.2.2.2 - h.2.2.2; omega
          subst hcells; subst hslots
          have fin : ∀ (v : Option Value), v = w.map (ai_v ρ') → ∀ t : State, t.heap = H' → s.WarmedH t.vm → ai_Qr cl D dA b0 ρ h o h' s v t := fun v hv t ht _ => ⟨ρ', w, w1, hv, w2, by rw [ht]; exact w3, w5, w4.F ht⟩
          have out : ∀ t, MQ below (fun _ st oc t => ∃ v, oc = .returned v ∧ ai_Qr cl D dA b0 ρ h o h' st v t) (av.map (ai_v ρ)).toArray s (ai_rm (d + 1) h h').cells (ai_rm (d + 1) h h').slots (fun q => b0 ≤ q) t → ai_Qf below (fun q => b0 ≤ q) (ai_rm (d + 1) h h').cells (ai_rm (d + 1) h h').slots (ai_Qr cl D dA b0 ρ h o h') (ai_Qt cl D dA b0 ex ρ h o h') (av.map (ai_v ρ)).toArray s t := by
            rintro t ⟨o', b1, b2, ⟨v, rfl, b3⟩, Lq, ⟨-, b4, b5⟩, b6⟩
            exact ⟨_, b1, b2, Lq, b6, b4, b5, Or.inl ⟨v, rfl, b3⟩⟩
          refine ai_W_mono out ?_
          cases ins
          case return_ =>
            simp only [ai_ret] at w9
            split at w9
            · rename_i hret hnil
              cases w9
              exact W.vret Bd.exec Bd.bytes (Bd.returns.trans hret) (fun t ht hW => ⟨none, rfl, fin none rfl t ht hW⟩) w4.2.2 w8 Bd.notSynchronized
            · cases w9
          case ireturn =>
            simp only [ai_ret] at w9
            split at w9
            · rename_i ty x hret hst
              split at w9
              · rename_i hf
                cases w9
                exact W.zret Bd.exec Bd.bytes (Bd.returns.trans hret) (ai_fit_ok (ρ := ρ') hf).1 (fun t ht hW => ⟨some (.int x), rfl, fin _ rfl t ht hW⟩) w4.2.2 w8 Bd.notSynchronized
              · cases w9
            · cases w9
          case areturn =>
            simp only [ai_ret] at w9
            split at w9
            · rename_i nm x hret hst
              cases w9
              exact W.aret Bd.exec Bd.bytes (Bd.returns.trans hret) (Or.inl ⟨_, rfl⟩) (by cases x; exact Or.inl rfl; exact Or.inr ⟨_, rfl⟩) (fun t ht hW => ⟨_, rfl, fin _ rfl t ht hW⟩) w4.2.2 w8 Bd.notSynchronized
            · rename_i nm x hret hst
              cases w9
              exact W.aret Bd.exec Bd.bytes (Bd.returns.trans hret) (Or.inr ⟨_, rfl⟩) (by cases x; exact Or.inl rfl; exact Or.inr ⟨_, rfl⟩) (fun t ht hW => ⟨_, rfl, fin _ rfl t ht hW⟩) w4.2.2 w8 Bd.notSynchronized
            · cases w9
          all_goals (simp [ai_ret] at w9)
        have kt : ai_KT cl D dA b0 ex s below (ai_Qf below (fun q => b0 ≤ q) (ai_rm (d + 1) h h').cells (ai_rm (d + 1) h h').slots (ai_Qr cl D dA b0 ρ h o h') (ai_Qt cl D dA b0 ex ρ h o h') (av.map (ai_v ρ)).toArray s) ρ h 0 0 o h' := by
          intro x t q ce ρ' locs' cells' slots' w1 w2 w3 w4 w5 w6 w7 w8 w9 w10 w11 w12 w13 w14
          have hcells : cells' = (ai_rm (d + 1) h h').cells := by show cells' = h'.2.2.1 - h.2.2.1; omega
          have hslots : slots' = (ai_rm (d + 1) h h').slots := by show slots' = h'.2.2.2 - h.2.2.2; omega
          subst hcells; subst hslots
          exact ⟨.threw q, w2, w3, locs', w6, w4, w5, Or.inr ⟨q, rfl, ρ', x, ce, w1, w7, w8, w9, w10, w11, w12⟩⟩
        have hw := ai_frame (p := p) (l := l) (e := e) (R := ai_rm (d + 1) h h') (s := s) (m := m) (args := (av.map (ai_v ρ)).toArray) (below := below) (meth := meth) (c := c) (cc := cc) (mi := mi)
          hgood hcl hasg hmo rows Bd.exec Bd.bytes hml hown hts Bd.notSynchronized (name_of_methodNamed Bd.named Bd.method).1 htab hK hB0 hl hz (d := d) (by show d + 13 ≤ d + 1 + 12; omega) (by show 64 * d + 364 ≤ 64 * (d + 1) + 300; omega) (ai_call_mono d) ihd
          _ _ _ _ _ _ _ hc ρ s.heap [] 0 0 _ hR va_S.rf (ai_ent_lr hfit) (by simp; omega) (fun _ z => (nomatch z)) (fun v hv => by
            rcases List.mem_append.mp hv with z | z
            · exact ai_ent_ok hav v z
            · exact absurd (List.eq_of_mem_replicate z) (by simp)) hsc (by show 0 + h'.2.2.1 ≤ (h'.2.2.1 - h.2.2.1) + h.2.2.1; omega) (by show 0 + h'.2.2.2 ≤ (h'.2.2.2 - h.2.2.2) + h.2.2.2; omega) kr kt
        have e9 : (F0 m 0 ((lg_sl (av.map (ai_v ρ)) ++ List.replicate ((P.2.2.1 mi).1 - (lg_sl (av.map (ai_v ρ))).length) Slot.unset).toArray) (List.map (ai_v ρ) [])) = entryFrame m (av.map (ai_v ρ)).toArray (P.2.2.1 mi).1 := (lg_entry_eq m (av.map (ai_v ρ)) (P.2.2.1 mi).1).symm
        rw [e9] at hw
        obtain ⟨t, a1, o', b1, b2, b3⟩ := hw s₁ hh0 X₀
        exact ⟨t, o', a1, b1, b2, b3⟩
    · cases hc
end AIS
end
