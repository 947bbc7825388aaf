/-! THE ABSTRACT MACHINE. Its addresses are pairs (where it was made, the how-manieth there); its values ints, longs, references or null; its cells objects (class number, fields), arrays (type number, length, contents), and things that it knows nothing of (a number). A heap: its cells, how many were made where, how many cells and slots in all. -/
abbrev ai_A : Type := Nat × Nat
abbrev ai_V : Type := Int32 ⊕ (Int64 ⊕ Option ai_A)
abbrev ai_D : Type := (Nat → Int32) ⊕ ((Nat → Int64) ⊕ (Nat → Option ai_A))
abbrev ai_C : Type := (Nat × List ai_V) ⊕ ((Nat × Nat × ai_D) ⊕ Nat)
abbrev ai_H : Type := (ai_A → Option ai_C) × (Nat → Nat) × Nat × Nat
abbrev ai_L : Type := List (Option ai_V)
/-- what comes of a method: an answer, or the number of a thrown class -/
abbrev ai_O : Type := Option ai_V ⊕ Nat
/-- a row of code: which kind of step, the instruction, what its links lead to -/
abbrev ai_I : Type := Nat × Instr × List Nat
def ai_upd (f : ai_A → Option ai_C) (a : ai_A) (x : ai_C) : ai_A → Option ai_C := fun b => if b = a then some x else f b
def ai_put (h : ai_H) (a : ai_A) (x : ai_C) : ai_H := (ai_upd h.1 a x, h.2)
def ai_new (h : ai_H) (s : Nat) (x : ai_C) (n : Nat) : ai_H :=
  (ai_upd h.1 (s, h.2.1 s) x, (fun j => if j = s then h.2.1 s + 1 else h.2.1 j), h.2.2.1 + 1, h.2.2.2 + n)
def ai_two : ai_V → Bool
  | .inr (.inl _) => true
  | _ => false
/-- a long stands just ahead of this place -/
def ai_pl (ls : ai_L) : Nat → Bool
  | 0 => false
  | j + 1 => match ls[j]? with
    | some (some v) => ai_two v
    | _ => false
def ai_st1 (ls : ai_L) (i : Nat) (v : ai_V) : Option ai_L := if i < ls.length ∧ ai_pl ls i = false then some (ls.set i (some v)) else none
def ai_st2 (ls : ai_L) (i : Nat) (v : ai_V) : Option ai_L := if i + 1 < ls.length ∧ ai_pl ls i = false then some ((ls.set i (some v)).set (i + 1) none) else none
def ai_ii (f : Int32 → Int32 → Int32) : List ai_V → Option (List ai_V)
  | .inl y :: .inl x :: r => some (.inl (f x y) :: r)
  | _ => none
def ai_ll (f : Int64 → Int64 → Int64) : List ai_V → Option (List ai_V)
  | .inr (.inl y) :: .inr (.inl x) :: r => some (.inr (.inl (f x y)) :: r)
  | _ => none
def ai_li (f : Int64 → Int32 → Int64) : List ai_V → Option (List ai_V)
  | .inl y :: .inr (.inl x) :: r => some (.inr (.inl (f x y)) :: r)
  | _ => none
/-- how long an instruction is (switches aside) -/
def ai_len : Instr → Nat
  | .bipush _ => 2
  | .sipush _ => 3
  | .ldc _ => 2
  | .ldc2_w _ => 3
  | .ldc_w _ => 3
  | .iload _ => 2
  | .lload _ => 2
  | .aload _ => 2
  | .istore _ => 2
  | .lstore _ => 2
  | .astore _ => 2
  | .iinc _ _ => 3
  | .getfield _ => 3
  | .putfield _ => 3
  | .getstatic _ => 3
  | .newarray _ => 2
  | .anewarray _ => 3
  | .new _ => 3
  | .checkcast _ => 3
  | .goto _ => 3
  | .ifCond _ _ => 3
  | .if_icmp _ _ => 3
  | .if_acmp _ _ => 3
  | .ifnull _ => 3
  | .ifnonnull _ => 3
  | .invokevirtual _ => 3
  | .invokespecial _ => 3
  | .invokestatic _ => 3
  | _ => 1
/-- KIND 0: what works on the stack alone -/
def ai_pure (ins : Instr) (st : List ai_V) : Option (List ai_V) := match ins with
  | .iconst n => some (.inl (Int32.ofInt n) :: st)
  | .bipush n => some (.inl (Int8.ofInt n).toInt32 :: st)
  | .sipush n => some (.inl (Int16.ofInt n).toInt32 :: st)
  | .lconst n => some (.inr (.inl (Int64.ofNat (n : Nat))) :: st)
  | .aconst_null => some (.inr (.inr none) :: st)
  | .dup => match st with
    | v :: r => if ai_two v then none else some (v :: v :: r)
    | _ => none
  | .dup_x1 => match st with
    | v :: w :: r => if ai_two v || ai_two w then none else some (v :: w :: v :: r)
    | _ => none
  | .dup_x2 => match st with
    | v :: w :: u :: r => if ai_two v || ai_two w || ai_two u then none else some (v :: w :: u :: v :: r)
    | _ => none
  | .dup2 => match st with
    | v :: w :: r => if ai_two v || ai_two w then none else some (v :: w :: v :: w :: r)
    | _ => none
  | .pop => match st with
    | v :: r => if ai_two v then none else some r
    | _ => none
  | .iadd => ai_ii (fun x y => x + y) st
  | .isub => ai_ii (fun x y => x - y) st
  | .imul => ai_ii (fun x y => x * y) st
  | .iand => ai_ii (fun x y => x &&& y) st
  | .ior => ai_ii (fun x y => x ||| y) st
  | .ixor => ai_ii (fun x y => x ^^^ y) st
  | .ishl => ai_ii (fun x y => x <<< (y &&& 31)) st
  | .ishr => ai_ii (fun x y => x >>> (y &&& 31)) st
  | .iushr => ai_ii (fun x y => (x.toUInt32 >>> (y.toUInt32 &&& Int32.toUInt32 31)).toInt32) st
  | .idiv => match st with
    | .inl y :: .inl x :: r => if y = 0 then none else some (.inl (x / y) :: r)
    | _ => none
  | .irem => match st with
    | .inl y :: .inl x :: r => if y = 0 then none else some (.inl (x - x / y * y) :: r)
    | _ => none
  | .ineg => match st with
    | .inl x :: r => some (.inl (-x) :: r)
    | _ => none
  | .ladd => ai_ll (fun x y => x + y) st
  | .lsub => ai_ll (fun x y => x - y) st
  | .land => ai_ll (fun x y => x &&& y) st
  | .lor => ai_ll (fun x y => x ||| y) st
  | .lxor => ai_ll (fun x y => x ^^^ y) st
  | .lshl => ai_li (fun x y => x <<< (y.toInt64 &&& 63)) st
  | .lushr => ai_li (fun x y => (x.toUInt64 >>> (y.toInt64.toUInt64 &&& Int64.toUInt64 63)).toInt64) st
  | .i2l => match st with
    | .inl x :: r => some (.inr (.inl x.toInt64) :: r)
    | _ => none
  | .l2i => match st with
    | .inr (.inl x) :: r => some (.inl x.toInt32 :: r)
    | _ => none
  | .i2c => match st with
    | .inl x :: r => some (.inl (x.toUInt32 % 65536).toInt32 :: r)
    | _ => none
  | .lcmp => match st with
    | .inr (.inl y) :: .inr (.inl x) :: r => some (.inl (lg_cmp x y) :: r)
    | _ => none
  | _ => none
def ai_cmp (q : ClassFile.Cond) (x y : Int32) : Bool := match q with
  | .eq => decide (x = y)
  | .ne => decide (¬ x = y)
  | .lt => decide (x < y)
  | .ge => decide (y ≤ x)
  | .gt => decide (y < x)
  | .le => decide (x ≤ y)
def ai_lk (x : Int) (d : Nat) : List (Int × Int) → List Nat → Nat
  | (k, _) :: ps, t :: ts => if x = k then t else ai_lk x d ps ts
  | _, _ => d
/-- KIND 1: jumps; their targets stand among the links -/
def ai_jmp (ins : Instr) (pc : Nat) (ks : List Nat) (st : List ai_V) : Option (Nat × List ai_V) := match ins with
  | .goto _ => some (ks.getD 0 0, st)
  | .ifCond q _ => match st with
    | .inl x :: r => some (if ai_cmp q x 0 then ks.getD 0 0 else pc + 3, r)
    | _ => none
  | .if_icmp q _ => match st with
    | .inl y :: .inl x :: r => some (if ai_cmp q x y then ks.getD 0 0 else pc + 3, r)
    | _ => none
  | .ifnull _ => match st with
    | .inr (.inr none) :: r => some (ks.getD 0 0, r)
    | .inr (.inr (some _)) :: r => some (pc + 3, r)
    | _ => none
  | .ifnonnull _ => match st with
    | .inr (.inr none) :: r => some (pc + 3, r)
    | .inr (.inr (some _)) :: r => some (ks.getD 0 0, r)
    | _ => none
  | .tableswitch _ lo hi _ => match st with
    | .inl x :: r => some (if x.toInt < lo ∨ hi < x.toInt then ks.getD 0 0 else ks.getD (1 + (x.toInt - lo).toNat) 0, r)
    | _ => none
  | .lookupswitch _ ps => match st with
    | .inl x :: r => some (ai_lk x.toInt (ks.getD 0 0) ps.toList (ks.drop 1), r)
    | _ => none
  | _ => none
/-- what a jump's row must keep -/
def ai_jok (ins : Instr) (pc : Nat) (ks : List Nat) : Prop := match ins with
  | .goto off => (pc : Int) + off = (ks.getD 0 0 : Nat)
  | .ifCond _ off => (pc : Int) + off = (ks.getD 0 0 : Nat)
  | .if_icmp _ off => (pc : Int) + off = (ks.getD 0 0 : Nat)
  | .ifnull off => (pc : Int) + off = (ks.getD 0 0 : Nat)
  | .ifnonnull off => (pc : Int) + off = (ks.getD 0 0 : Nat)
  | .tableswitch d lo hi offs => (pc : Int) + d = (ks.getD 0 0 : Nat) ∧ ∀ j, j < (hi - lo + 1).toNat → ∃ off, offs[j]? = some off ∧ (pc : Int) + off = (ks.getD (1 + j) 0 : Nat)
  | .lookupswitch d ps => (ps.toList.zip (ps.toList.drop 1)).all (fun (a, next) => a.1 < next.1) = true ∧ (pc : Int) + d = (ks.getD 0 0 : Nat) ∧ ks.length = ps.toList.length + 1 ∧ ∀ j, j < ps.toList.length → (pc : Int) + (ps.toList.getD j (0, 0)).2 = (ks.getD (1 + j) 0 : Nat)
  | _ => True
/-- KIND 2: locals -/
def ai_loc (ins : Instr) (ls : ai_L) (st : List ai_V) : Option (ai_L × List ai_V) := match ins with
  | .iload i => match ls[i]? with
    | some (some (.inl x)) => some (ls, .inl x :: st)
    | _ => none
  | .iload_n k => match ls[(k : Nat)]? with
    | some (some (.inl x)) => some (ls, .inl x :: st)
    | _ => none
  | .lload i => match ls[i]? with
    | some (some (.inr (.inl x))) => some (ls, .inr (.inl x) :: st)
    | _ => none
  | .lload_n k => match ls[(k : Nat)]? with
    | some (some (.inr (.inl x))) => some (ls, .inr (.inl x) :: st)
    | _ => none
  | .aload i => match ls[i]? with
    | some (some (.inr (.inr x))) => some (ls, .inr (.inr x) :: st)
    | _ => none
  | .aload_n k => match ls[(k : Nat)]? with
    | some (some (.inr (.inr x))) => some (ls, .inr (.inr x) :: st)
    | _ => none
  | .istore i => match st with
    | .inl x :: r => (ai_st1 ls i (.inl x)).map (fun q => (q, r))
    | _ => none
  | .istore_n k => match st with
    | .inl x :: r => (ai_st1 ls k (.inl x)).map (fun q => (q, r))
    | _ => none
  | .lstore i => match st with
    | .inr (.inl x) :: r => (ai_st2 ls i (.inr (.inl x))).map (fun q => (q, r))
    | _ => none
  | .lstore_n k => match st with
    | .inr (.inl x) :: r => (ai_st2 ls k (.inr (.inl x))).map (fun q => (q, r))
    | _ => none
  | .astore i => match st with
    | .inr (.inr x) :: r => (ai_st1 ls i (.inr (.inr x))).map (fun q => (q, r))
    | _ => none
  | .astore_n k => match st with
    | .inr (.inr x) :: r => (ai_st1 ls k (.inr (.inr x))).map (fun q => (q, r))
    | _ => none
  | .iinc i n => match ls[i]? with
    | some (some (.inl x)) => (ai_st1 ls i (.inl (x + Int32.ofInt n))).map (fun q => (q, st))
    | _ => none
  | _ => none
/-- a value that a field or an answer of this type takes as it is -/
def ai_fit (ty : FieldType) (v : ai_V) : Bool := match ty, v with
  | .int, .inl _ => true
  | .boolean, .inl x => decide (x = 0 ∨ x = 1)
  | .char, .inl x => decide (0 ≤ x ∧ x ≤ 65535)
  | .long, .inr (.inl _) => true
  | .object _, .inr (.inr _) => true
  | .array _, .inr (.inr _) => true
  | _, _ => false
def ai_obj : FieldType → Bool
  | .object _ => true
  | _ => false
/-- KIND 3: the heap. dfl: a class's fields at first; tyA: the arrays' types; tyF: the fields' types; asg: which objects an array of references takes; L, xs: the law's script, a thing of number 0. -/
def ai_heap (dfl : Nat → List ai_V) (tyA : Nat → FieldType) (tyF : Nat → Nat → FieldType) (asg : Nat → Nat → Bool) (L : Nat) (xs : Nat → Int32) (ins : Instr) (ks : List Nat) (st : List ai_V) (h : ai_H) : Option (List ai_V × ai_H) := match ins with
  | .ldc _ => some (.inl (Int32.ofNat (ks.getD 0 0)) :: st, h)
  | .ldc_w _ => some (.inl (Int32.ofNat (ks.getD 0 0)) :: st, h)
  | .ldc2_w _ => some (.inr (.inl (Int64.ofNat (ks.getD 0 0))) :: st, h)
  | .getfield _ => match st with
    | .inr (.inr (some a)) :: r => match h.1 a with
      | some (.inl (cj, fs)) => if cj = ks.getD 0 0 then (fs[ks.getD 1 0]?).map (fun v => (v :: r, h)) else none
      | _ => none
    | _ => none
  | .putfield _ => match st with
    | v :: .inr (.inr (some a)) :: r => match h.1 a with
      | some (.inl (cj, fs)) => if cj = ks.getD 0 0 ∧ ks.getD 1 0 < fs.length ∧ ai_fit (tyF cj (ks.getD 1 0)) v = true then some (r, ai_put h a (.inl (cj, fs.set (ks.getD 1 0) v))) else none
      | _ => none
    | _ => none
  | .iaload => match st with
    | .inl i :: .inr (.inr (some a)) :: r => match h.1 a with
      | some (.inr (.inl (t, n, .inl f))) => if tyA t = .int ∧ ¬ (i < 0 ∨ n ≤ i.toNatClampNeg) then some (.inl (f i.toNatClampNeg) :: r, h) else none
      | some (.inr (.inr 0)) => if ¬ (i < 0 ∨ L ≤ i.toNatClampNeg) then some (.inl (xs i.toNatClampNeg) :: r, h) else none
      | _ => none
    | _ => none
  | .caload => match st with
    | .inl i :: .inr (.inr (some a)) :: r => match h.1 a with
      | some (.inr (.inl (t, n, .inl f))) => if tyA t = .char ∧ ¬ (i < 0 ∨ n ≤ i.toNatClampNeg) then some (.inl (f i.toNatClampNeg) :: r, h) else none
      | _ => none
    | _ => none
  | .baload => match st with
    | .inl i :: .inr (.inr (some a)) :: r => match h.1 a with
      | some (.inr (.inl (t, n, .inl f))) => if tyA t = .boolean ∧ ¬ (i < 0 ∨ n ≤ i.toNatClampNeg) then some (.inl (f i.toNatClampNeg) :: r, h) else none
      | _ => none
    | _ => none
  | .laload => match st with
    | .inl i :: .inr (.inr (some a)) :: r => match h.1 a with
      | some (.inr (.inl (t, n, .inr (.inl f)))) => if tyA t = .long ∧ ¬ (i < 0 ∨ n ≤ i.toNatClampNeg) then some (.inr (.inl (f i.toNatClampNeg)) :: r, h) else none
      | _ => none
    | _ => none
  | .aaload => match st with
    | .inl i :: .inr (.inr (some a)) :: r => match h.1 a with
      | some (.inr (.inl (t, n, .inr (.inr f)))) => if ai_obj (tyA t) = true ∧ ¬ (i < 0 ∨ n ≤ i.toNatClampNeg) then some (.inr (.inr (f i.toNatClampNeg)) :: r, h) else none
      | _ => none
    | _ => none
  | .iastore => match st with
    | .inl x :: .inl i :: .inr (.inr (some a)) :: r => match h.1 a with
      | some (.inr (.inl (t, n, .inl f))) => if tyA t = .int ∧ ¬ (i < 0 ∨ n ≤ i.toNatClampNeg) then some (r, ai_put h a (.inr (.inl (t, n, .inl (upd f i.toNatClampNeg x))))) else none
      | _ => none
    | _ => none
  | .castore => match st with
    | .inl x :: .inl i :: .inr (.inr (some a)) :: r => match h.1 a with
      | some (.inr (.inl (t, n, .inl f))) => if tyA t = .char ∧ ¬ (i < 0 ∨ n ≤ i.toNatClampNeg) then some (r, ai_put h a (.inr (.inl (t, n, .inl (upd f i.toNatClampNeg (vp_nar .char x)))))) else none
      | _ => none
    | _ => none
  | .bastore => match st with
    | .inl x :: .inl i :: .inr (.inr (some a)) :: r => match h.1 a with
      | some (.inr (.inl (t, n, .inl f))) => if tyA t = .boolean ∧ ¬ (i < 0 ∨ n ≤ i.toNatClampNeg) then some (r, ai_put h a (.inr (.inl (t, n, .inl (upd f i.toNatClampNeg (vp_nar .boolean x)))))) else none
      | _ => none
    | _ => none
  | .lastore => match st with
    | .inr (.inl x) :: .inl i :: .inr (.inr (some a)) :: r => match h.1 a with
      | some (.inr (.inl (t, n, .inr (.inl f)))) => if tyA t = .long ∧ ¬ (i < 0 ∨ n ≤ i.toNatClampNeg) then some (r, ai_put h a (.inr (.inl (t, n, .inr (.inl (vp_updL f i.toNatClampNeg x)))))) else none
      | _ => none
    | _ => none
  | .aastore => match st with
    | .inr (.inr none) :: .inl i :: .inr (.inr (some a)) :: r => match h.1 a with
      | some (.inr (.inl (t, n, .inr (.inr f)))) => if ai_obj (tyA t) = true ∧ ¬ (i < 0 ∨ n ≤ i.toNatClampNeg) then some (r, ai_put h a (.inr (.inl (t, n, .inr (.inr (va_up f i.toNatClampNeg none)))))) else none
      | _ => none
    | .inr (.inr (some b)) :: .inl i :: .inr (.inr (some a)) :: r => match h.1 a, h.1 b with
      | some (.inr (.inl (t, n, .inr (.inr f)))), some (.inl (cj, _)) => if asg t cj = true ∧ ¬ (i < 0 ∨ n ≤ i.toNatClampNeg) then some (r, ai_put h a (.inr (.inl (t, n, .inr (.inr (va_up f i.toNatClampNeg (some b))))))) else none
      | _, _ => none
    | _ => none
  | .arraylength => match st with
    | .inr (.inr (some a)) :: r => match h.1 a with
      | some (.inr (.inl (t, n, _))) => if tyA t = .float then none else some (.inl (Int32.ofNat n) :: r, h)
      | some (.inr (.inr 0)) => some (.inl (Int32.ofNat L) :: r, h)
      | some (.inr (.inr 2)) => some (.inl 0 :: r, h)
      | _ => none
    | _ => none
  | .new _ => if (h.1 (ks.getD 1 0, h.2.1 (ks.getD 1 0))).isNone then some (.inr (.inr (some (ks.getD 1 0, h.2.1 (ks.getD 1 0)))) :: st, ai_new h (ks.getD 1 0) (.inl (ks.getD 0 0, dfl (ks.getD 0 0))) (dfl (ks.getD 0 0)).length) else none
  | .newarray _ => match st with
    | .inl n :: r => if (h.1 (ks.getD 1 0, h.2.1 (ks.getD 1 0))).isNone ∧ ¬ n < 0 ∧ n.toNatClampNeg * 8 ≤ 536870912 then some (.inr (.inr (some (ks.getD 1 0, h.2.1 (ks.getD 1 0)))) :: r, ai_new h (ks.getD 1 0) (.inr (.inl (ks.getD 0 0, n.toNatClampNeg, if tyA (ks.getD 0 0) = .long then .inr (.inl fun _ => 0) else .inl fun _ => 0))) n.toNatClampNeg) else none
    | _ => none
  | .anewarray _ => match st with
    | .inl n :: r => if (h.1 (ks.getD 1 0, h.2.1 (ks.getD 1 0))).isNone ∧ ¬ n < 0 ∧ n.toNatClampNeg * 8 ≤ 536870912 then some (.inr (.inr (some (ks.getD 1 0, h.2.1 (ks.getD 1 0)))) :: r, ai_new h (ks.getD 1 0) (.inr (.inl (ks.getD 0 0, n.toNatClampNeg, .inr (.inr fun _ => none)))) n.toNatClampNeg) else none
    | _ => none
  | .checkcast _ => match st with
    | .inr (.inr none) :: r => some (.inr (.inr none) :: r, h)
    | .inr (.inr (some a)) :: r => match h.1 a with
      | some (.inl (cj, _)) => if cj = ks.getD 0 0 then some (.inr (.inr (some a)) :: r, h) else none
      | _ => none
    | _ => none
  | _ => none
def ai_solid : ai_C → Bool
  | .inr (.inr _) => false
  | _ => true
def ai_is2 : ai_C → Bool
  | .inr (.inr 2) => true
  | _ => false
/-- are two references one? none: that isn't known -/
def ai_same (h : ai_H) (x y : Option ai_A) : Option Bool := match x, y with
  | none, none => some true
  | none, some _ => some false
  | some _, none => some false
  | some a, some b => if a = b then some true else match h.1 a, h.1 b with
    | some z, some w => if (ai_solid z = true ∧ ai_solid w = true) ∨ (ai_solid z = true ∧ ai_is2 w = true) ∨ (ai_is2 z = true ∧ ai_solid w = true) then some false else none
    | _, _ => none
def ai_wt : List ai_V → Nat
  | [] => 0
  | v :: vs => (if ai_two v = true then 2 else 1) + ai_wt vs
/-- the objects in these places are all of one kind that the array takes -/
def ai_cq (asg : Nat → Nat → Bool) (h : ai_H) (t : Nat) (f : Nat → Option ai_A) (sp n : Nat) : Prop := ∃ cj, asg t cj = true ∧ ∀ i, i < n → ∀ b, f (sp + i) = some b → ∃ fs, h.1 b = some (.inl (cj, fs))
/-- KIND 10: the library's own: 0 the empty array that lists begin with (a thing of number 2, at (0, 1)); 1, 2 the class of arrays of objects (a thing of number 3, at (0, 2)), as a constant, of an array; 3, 4 references compared; 5, 6 arraycopy -/
noncomputable def ai_ext (tyA : Nat → FieldType) (asg : Nat → Nat → Bool) (pc : Nat) (ks : List Nat) (st : List ai_V) (h : ai_H) : Option (Nat × List ai_V × ai_H) := match ks.getD 0 0 with
  | 0 => match h.1 (0, 1) with
    | some (.inr (.inr 2)) => some (pc + 3, .inr (.inr (some (0, 1))) :: st, h)
    | _ => none
  | 1 => match h.1 (0, 2) with
    | some (.inr (.inr 3)) => some (pc + 2, .inr (.inr (some (0, 2))) :: st, h)
    | _ => none
  | 2 => match st with
    | .inr (.inr (some a)) :: r => match h.1 a, h.1 (0, 2) with
      | some (.inr (.inl (t, _, .inr (.inr _)))), some (.inr (.inr 3)) => if tyA t = .object "java/lang/Object" ∧ ai_wt r ≤ 8 then some (pc + 3, .inr (.inr (some (0, 2))) :: r, h) else none
      | _, _ => none
    | _ => none
  | 3 => match st with
    | .inr (.inr y) :: .inr (.inr x) :: r => match ai_same h x y with
      | some q => some (if q = true then ks.getD 1 0 else pc + 3, r, h)
      | none => none
    | _ => none
  | 4 => match st with
    | .inr (.inr y) :: .inr (.inr x) :: r => match ai_same h x y with
      | some q => some (if q = true then pc + 3 else ks.getD 1 0, r, h)
      | none => none
    | _ => none
  | 5 => match st with
    | .inl n :: .inl dp :: .inr (.inr (some b)) :: .inl sp :: .inr (.inr (some a)) :: r => match h.1 a, h.1 b with
      | some (.inr (.inl (t0, n0, .inl f))), some (.inr (.inl (t1, n1, .inl g))) => if tyA t0 = .int ∧ tyA t1 = .int ∧ ¬ sp < 0 ∧ ¬ dp < 0 ∧ ¬ n < 0 ∧ sp.toNatClampNeg + n.toNatClampNeg ≤ n0 ∧ dp.toNatClampNeg + n.toNatClampNeg ≤ n1 ∧ ai_wt r ≤ 8 then some (pc + 3, r, ai_put h b (.inr (.inl (t1, n1, .inl (va_cpy f g sp.toNatClampNeg dp.toNatClampNeg n.toNatClampNeg))))) else none
      | _, _ => none
    | _ => none
  | 6 => match st with
    | .inl n :: .inl dp :: .inr (.inr (some b)) :: .inl sp :: .inr (.inr (some a)) :: r => match h.1 a, h.1 b with
      | some (.inr (.inl (t0, n0, .inr (.inr f)))), some (.inr (.inl (t1, n1, .inr (.inr g)))) => @ite _ (ai_obj (tyA t0) = true ∧ ¬ sp < 0 ∧ ¬ dp < 0 ∧ ¬ n < 0 ∧ sp.toNatClampNeg + n.toNatClampNeg ≤ n0 ∧ dp.toNatClampNeg + n.toNatClampNeg ≤ n1 ∧ ai_wt r ≤ 8 ∧ ai_cq asg h t1 f sp.toNatClampNeg n.toNatClampNeg) (Classical.propDecidable _) (some (pc + 3, r, ai_put h b (.inr (.inl (t1, n1, .inr (.inr (va_cpy f g sp.toNatClampNeg dp.toNatClampNeg n.toNatClampNeg))))))) none
      | _, _ => none
    | _ => none
  | _ => none
