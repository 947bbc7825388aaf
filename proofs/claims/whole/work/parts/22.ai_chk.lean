/-! Rows of code checked by tables of numbers. -/
def ai_has (F : List (Nat × Nat × Nat × Nat)) (a b c d : Nat) : Bool := F.any fun q => Nat.beq q.1 a && (Nat.beq q.2.1 b && (Nat.beq q.2.2.1 c && Nat.beq q.2.2.2 d))
theorem ai_has_ok {F : List (Nat × Nat × Nat × Nat)} {a b c d : Nat} (e : ai_has F a b c d = true) : (a, b, c, d) ∈ F := by
  unfold ai_has at e
  obtain ⟨q, hq, e⟩ := List.any_eq_true.mp e
  simp only [Bool.and_eq_true, Nat.beq_eq] at e
  obtain ⟨e1, e2, e3, e4⟩ := e
  obtain ⟨q1, q2, q3, q4⟩ := q
  simp only at e1 e2 e3 e4
  subst e1; subst e2; subst e3; subst e4
  exact hq
def ai_jokB (ins : Instr) (pc : Nat) (ks : List Nat) : Bool := match ins with
  | .goto off => decide ((pc : Int) + off = (ks.getD 0 0 : Nat))
  | .ifCond _ off => decide ((pc : Int) + off = (ks.getD 0 0 : Nat))
  | .if_icmp _ off => decide ((pc : Int) + off = (ks.getD 0 0 : Nat))
  | .ifnull off => decide ((pc : Int) + off = (ks.getD 0 0 : Nat))
  | .ifnonnull off => decide ((pc : Int) + off = (ks.getD 0 0 : Nat))
  | .tableswitch d lo hi offs => decide ((pc : Int) + d = (ks.getD 0 0 : Nat)) && (List.range (hi - lo + 1).toNat).all fun j => match offs[j]? with
    | some off => decide ((pc : Int) + off = (ks.getD (1 + j) 0 : Nat))
    | none => false
  | .lookupswitch d ps => (ps.toList.zip (ps.toList.drop 1)).all (fun (a, next) => a.1 < next.1) && (decide ((pc : Int) + d = (ks.getD 0 0 : Nat)) && (decide (ks.length = ps.toList.length + 1) && (List.range ps.toList.length).all fun j => decide ((pc : Int) + (ps.toList.getD j (0, 0)).2 = (ks.getD (1 + j) 0 : Nat))))
  | _ => true
theorem ai_jokB_ok {ins : Instr} {pc : Nat} {ks : List Nat} (h : ai_jokB ins pc ks = true) : ai_jok ins pc ks := by
  cases ins
  case goto off =>
    have h : decide ((pc : Int) + off = (ks.getD 0 0 : Nat)) = true := h
    have h2 := of_decide_eq_true h
    exact h2
  case ifCond q off =>
    have h : decide ((pc : Int) + off = (ks.getD 0 0 : Nat)) = true := h
    have h2 := of_decide_eq_true h
    exact h2
  case if_icmp q off =>
    have h : decide ((pc : Int) + off = (ks.getD 0 0 : Nat)) = true := h
    have h2 := of_decide_eq_true h
    exact h2
  case ifnull off =>
    have h : decide ((pc : Int) + off = (ks.getD 0 0 : Nat)) = true := h
    have h2 := of_decide_eq_true h
    exact h2
  case ifnonnull off =>
    have h : decide ((pc : Int) + off = (ks.getD 0 0 : Nat)) = true := h
    have h2 := of_decide_eq_true h
    exact h2
  case tableswitch d lo hi offs =>
    simp only [ai_jokB, Bool.and_eq_true] at h
    refine ⟨of_decide_eq_true h.1, fun j hj => ?_⟩
    have := List.all_eq_true.mp h.2 j (List.mem_range.mpr hj)
    cases ho : offs[j]? with
    | none => rw [ho] at this; cases this
    | some off =>
      rw [ho] at this
      exact ⟨off, rfl, of_decide_eq_true this⟩
  case lookupswitch d ps =>
    simp only [ai_jokB, Bool.and_eq_true] at h
    refine ⟨h.1, of_decide_eq_true h.2.1, of_decide_eq_true h.2.2.1, fun j hj => ?_⟩
    exact of_decide_eq_true (List.all_eq_true.mp h.2.2.2 j (List.mem_range.mpr hj))
  all_goals trivial
def ai_atn : ClassFile.ArrayType → Nat
  | .int => 0
  | .char => 1
  | .boolean => 2
  | .long => 3
  | _ => 9
def ai_hokB (F : Nat → List (Nat × Nat × Nat × Nat)) (o : Nat) (ini : Bool) (ins : Instr) (ks : List Nat) : Bool := match ins with
  | .ldc idx => ai_has (F 7) o idx (ks.getD 0 0) 0
  | .ldc_w idx => ai_has (F 7) o idx (ks.getD 0 0) 0
  | .ldc2_w idx => ai_has (F 8) o idx (ks.getD 0 0) 0
  | .getfield idx => ai_has (F 0) o idx (ks.getD 0 0) (ks.getD 1 0)
  | .putfield idx => ai_has (F 1) o idx (ks.getD 0 0) (ks.getD 1 0) || (ini && ai_has (F 2) o idx (ks.getD 0 0) (ks.getD 1 0))
  | .new idx => ai_has (F 3) o idx (ks.getD 0 0) 0
  | .newarray at_ => ai_has (F 4) (ai_atn at_) (ks.getD 0 0) 0 0
  | .anewarray idx => ai_has (F 5) o idx (ks.getD 0 0) 0
  | .checkcast idx => ai_has (F 6) o idx (ks.getD 0 0) 0
  | _ => true
/-- the facts behind the tables of what works on the heap -/
def ai_FH (Ts : List Cond) (cl : List vw_C) (tyL : List FieldType) (tyF : Nat → Nat → FieldType) (dfl : Nat → List ai_V) (own : Nat → String) (F : Nat → List (Nat × Nat × Nat × Nat)) : Prop :=
  (∀ q ∈ F 0, ai_fok Ts cl (own q.1) q.2.1 q.2.2.1 q.2.2.2) ∧ (∀ q ∈ F 1, ∀ mn, ai_pok Ts cl (own q.1) mn q.2.1 q.2.2.1 q.2.2.2) ∧ (∀ q ∈ F 2, ai_pok Ts cl (own q.1) "<init>" q.2.1 q.2.2.1 q.2.2.2) ∧
  (∀ q ∈ F 3, ∃ (C : String) (T : u_T) (N : Nat), cl[q.2.2.1]? = some (C, T, N) ∧ Cond.classLink (own q.1) q.2.1 C ∈ Ts ∧ Cond.instantiable C N ∈ Ts ∧ Cond.initialized C ∈ Ts ∧ (dfl q.2.2.1).length = N ∧ ∀ j, j < N → ai_v (fun _ => 0) ((dfl q.2.2.1).getD j (.inr (.inr none))) = defaultValue (tyF q.2.2.1 j) ∧ ∀ a, (dfl q.2.2.1).getD j (.inr (.inr none)) ≠ .inr (.inr (some a))) ∧
  (∀ q ∈ F 4, ∀ at_, ai_atn at_ = q.1 → tyL.getD q.2.1 .float = newarray.typeOf at_ ∧ newarray.typeOf at_ ≠ .float ∧ newarray.typeOf at_ ≠ .double ∧ Cond.arrayClass (newarray.typeOf at_) ∈ Ts) ∧
  (∀ q ∈ F 5, ∃ C, tyL.getD q.2.2.1 .float = .object C ∧ Cond.classLink (own q.1) q.2.1 C ∈ Ts ∧ Cond.arrayOver (.object C) ∈ Ts) ∧
  (∀ q ∈ F 6, ∃ (C : String) (T : u_T) (N : Nat), cl[q.2.2.1]? = some (C, T, N) ∧ Cond.classLink (own q.1) q.2.1 C ∈ Ts) ∧
  (∀ q ∈ F 7, Cond.constant (own q.1) q.2.1 (Int32.ofNat q.2.2.1) ∈ Ts) ∧ ∀ q ∈ F 8, Cond.constantLong (own q.1) q.2.1 (Int64.ofNat q.2.2.1) ∈ Ts
theorem ai_hokB_ok {Ts : List Cond} {cl : List vw_C} {tyL : List FieldType} {tyF : Nat → Nat → FieldType} {dfl : Nat → List ai_V} {own : Nat → String} {F : Nat → List (Nat × Nat × Nat × Nat)} (h : ai_FH Ts cl tyL tyF dfl own F) {o : Nat} {ini : Bool} {mn : String} (hi : ini = true → mn = "<init>") {ins : Instr} {ks : List Nat}
    (e : ai_hokB F o ini ins ks = true) : ai_hok Ts cl tyL tyF dfl (own o) mn ins ks := by
  obtain ⟨h0, h1, h2, h3, h4, h5, h6, h7, h8⟩ := h
  cases ins
  case ldc idx => exact h7 _ (ai_has_ok e)
  case ldc_w idx => exact h7 _ (ai_has_ok e)
  case ldc2_w idx => exact h8 _ (ai_has_ok e)
  case getfield idx => exact h0 _ (ai_has_ok e)
  case putfield idx =>
    simp only [ai_hokB, Bool.or_eq_true, Bool.and_eq_true] at e
    rcases e with e | ⟨e1, e⟩
    · exact h1 _ (ai_has_ok e) mn
    · rw [hi e1]
      exact h2 _ (ai_has_ok e)
  case new idx => exact h3 _ (ai_has_ok e)
  case newarray at_ => exact h4 _ (ai_has_ok e) at_ rfl
  case anewarray idx => exact h5 _ (ai_has_ok e)
  case checkcast idx => exact h6 _ (ai_has_ok e)
  all_goals trivial
/-- calls: whose class, which link, which kind, whom, how many arguments, which class -/
def ai_has6 (F : List (Nat × Nat × Nat × Nat × Nat × Nat)) (a b c d e f : Nat) : Bool := F.any fun q => Nat.beq q.1 a && (Nat.beq q.2.1 b && (Nat.beq q.2.2.1 c && (Nat.beq q.2.2.2.1 d && (Nat.beq q.2.2.2.2.1 e && Nat.beq q.2.2.2.2.2 f))))
theorem ai_has6_ok {F : List (Nat × Nat × Nat × Nat × Nat × Nat)} {a b c d e f : Nat} (h : ai_has6 F a b c d e f = true) : (a, b, c, d, e, f) ∈ F := by
  unfold ai_has6 at h
  obtain ⟨q, hq, e⟩ := List.any_eq_true.mp h
  simp only [Bool.and_eq_true, Nat.beq_eq] at e
  obtain ⟨e1, e2, e3, e4, e5, e6⟩ := e
  obtain ⟨q1, q2, q3, q4, q5, q6⟩ := q
  simp only at e1 e2 e3 e4 e5 e6
  subst e1; subst e2; subst e3; subst e4; subst e5; subst e6
  exact hq
def ai_ci (kd idx : Nat) : Instr := if kd = 0 then .invokevirtual idx else if kd = 1 then .invokespecial idx else .invokestatic idx
def ai_callB (C6 : List (Nat × Nat × Nat × Nat × Nat × Nat)) (o : Nat) (ins : Instr) (ks : List Nat) : Bool := match ins, ks with
  | .invokevirtual idx, [a, b, c] => ai_has6 C6 o idx 0 a b c
  | .invokespecial idx, [a, b, c] => ai_has6 C6 o idx 1 a b c
  | .invokestatic idx, [a, b, c] => ai_has6 C6 o idx 2 a b c
  | _, _ => false
def ai_thrB (F : Nat → List (Nat × Nat × Nat × Nat)) (o : Nat) (cc : ByteArray) (hh : List (Nat × Nat × Nat × Nat)) (pc : Nat) (ins : Instr) (ks : List Nat) : Bool := match ins with
  | .new ik => match decode cc (pc + 4) with
    | .ok (.invokespecial ic, 3) => decide (decode cc (pc + 3) = .ok (.dup, 1)) && (decide (decode cc (pc + 7) = .ok (.athrow, 1)) && (ai_has (F 13) o ik ic (ks.getD 0 0) && hh.all fun q => !ai_cov q (pc + 7)))
    | _ => false
  | _ => false
def ai_oneB (F : List (Nat × Nat × Nat × Nat)) (o : Nat) (ins : Instr) : Bool := match ins with
  | .invokespecial idx => ai_has F o idx 1 0
  | .invokestatic idx => ai_has F o idx 2 0
  | _ => false
def ai_extB (F : List (Nat × Nat × Nat × Nat)) (o pc : Nat) (ins : Instr) (ks : List Nat) : Bool := match ks.getD 0 0 with
  | 0 => match ins with
    | .getstatic idx => ai_has F o idx 0 0
    | _ => false
  | 1 => match ins with
    | .ldc idx => ai_has F o idx 1 0
    | _ => false
  | 2 => match ins with
    | .invokevirtual idx => ai_has F o idx 2 0
    | _ => false
  | 3 => match ins with
    | .if_acmp .eq off => decide ((pc : Int) + off = (ks.getD 1 0 : Nat))
    | _ => false
  | 4 => match ins with
    | .if_acmp .ne off => decide ((pc : Int) + off = (ks.getD 1 0 : Nat))
    | _ => false
  | 5 => match ins with
    | .invokestatic idx => ai_has F o idx 5 0
    | _ => false
  | 6 => match ins with
    | .invokestatic idx => ai_has F o idx 5 0
    | _ => false
  | _ => false
/-- the facts behind the other tables -/
def ai_FO (Ts : List Cond) (cl : List vw_C) (M : ai_M) (ex : Nat → String) (own : Nat → String) (F : Nat → List (Nat × Nat × Nat × Nat)) (C6 : List (Nat × Nat × Nat × Nat × Nat × Nat)) : Prop :=
  (∀ q ∈ C6, ∃ (y' : MethodName) (cc' : ByteArray) (hh' : List (Nat × Nat × Nat × Nat)) (n : Nat), M q.2.2.2.1 = some (y', cc', hh') ∧ (parseMethodDescriptor y'.desc).map (fun d => d.parameters.length) = some n ∧ ai_iok Ts cl (own q.1) y' n (ai_ci q.2.2.1 q.2.1) [q.2.2.2.1, q.2.2.2.2.1, q.2.2.2.2.2]) ∧
  (∀ q ∈ F 13, ∃ ns : List String, ai_tok Ts (own q.1) (ex q.2.2.2) ns q.2.1 q.2.2.1 ∧ ns.length ≤ 6) ∧
  (∀ q ∈ F 10, q.2.2.1 = 1 → Cond.methodLink (own q.1) q.2.1 Lib.objectInit ∈ Ts ∧ Cond.instanceMethod Lib.objectInit ∈ Ts ∧ Cond.code Lib.objectInit ⟨#[0xb1]⟩ 1 none ∈ Ts) ∧ (∀ q ∈ F 10, q.2.2.1 = 1) ∧
  (∀ q ∈ F 11, q.2.2.1 = 2 → Cond.methodLink (own q.1) q.2.1 Lib.Math.max.name ∈ Ts ∧ Cond.static Lib.Math.max.name ∈ Ts ∧ Cond.initialized "java/lang/Math" ∈ Ts ∧ Cond.code Lib.Math.max.name Lib.Math.max.code 2 (some .int) ∈ Ts) ∧ (∀ q ∈ F 11, q.2.2.1 = 2) ∧
  (∀ q ∈ F 12, q.2.2.1 = 2 → Cond.methodLink (own q.1) q.2.1 Lib.Math.min.name ∈ Ts ∧ Cond.static Lib.Math.min.name ∈ Ts ∧ Cond.initialized "java/lang/Math" ∈ Ts ∧ Cond.code Lib.Math.min.name Lib.Math.min.code 2 (some .int) ∈ Ts) ∧ (∀ q ∈ F 12, q.2.2.1 = 2) ∧
  (∀ q ∈ F 14, q.2.2.1 = 0 → Cond.fieldLink (own q.1) q.2.1 "java/util/ArrayList" "DEFAULTCAPACITY_EMPTY_ELEMENTDATA" "[Ljava/lang/Object;" ∈ Ts) ∧
  (∀ q ∈ F 14, q.2.2.1 = 1 → Cond.classLink (own q.1) q.2.1 "[Ljava/lang/Object;" ∈ Ts) ∧
  (∀ q ∈ F 14, q.2.2.1 = 2 → Cond.methodLink (own q.1) q.2.1 ai_gc ∈ Ts ∧ Cond.declares ai_gc ∈ Ts ∧ Cond.selects "[Ljava/lang/Object;" ai_gc ai_gc ∈ Ts ∧ Cond.instanceMethod ai_gc ∈ Ts ∧ Cond.native ai_gc ∈ Ts) ∧
  ∀ q ∈ F 14, q.2.2.1 = 5 → Cond.methodLink (own q.1) q.2.1 arraycopyName ∈ Ts ∧ Cond.native arraycopyName ∈ Ts ∧ Cond.static arraycopyName ∈ Ts ∧ Cond.initialized "java/lang/System" ∈ Ts
def ai_l3 (kd len : Nat) : Bool := Nat.beq kd 4 || Nat.beq kd 6 || Nat.beq kd 7 || Nat.beq kd 8 || Nat.beq kd 9
/-- a row is right -/
def ai_chk (F : Nat → List (Nat × Nat × Nat × Nat)) (C6 : List (Nat × Nat × Nat × Nat × Nat × Nat)) (Wr : Nat → Nat → Bool) (o : Nat) (ini : Bool) (mi : Nat) (cc : ByteArray) (hh : List (Nat × Nat × Nat × Nat)) (q : Nat × ai_I) : Bool := match decode cc q.1 with
  | .ok (i2, len) => decide (i2 = q.2.2.1) && (ai_lok q.2.2.1 len && match q.2.1 with
    | 0 => true
    | 1 => ai_jokB q.2.2.1 q.1 q.2.2.2
    | 2 => true
    | 3 => ai_hokB F o ini q.2.2.1 q.2.2.2
    | 4 => Nat.beq len 3 && (Wr mi q.1 && ai_callB C6 o q.2.2.1 q.2.2.2)
    | 5 => true
    | 6 => Nat.beq len 3 && ai_thrB F o cc hh q.1 q.2.2.1 q.2.2.2
    | 7 => Nat.beq len 3 && ai_oneB (F 10) o q.2.2.1
    | 8 => Nat.beq len 3 && ai_oneB (F 11) o q.2.2.1
    | 9 => Nat.beq len 3 && ai_oneB (F 12) o q.2.2.1
    | 10 => (Nat.beq len (if q.2.2.2.getD 0 0 = 1 then 2 else 3)) && ai_extB (F 14) o q.1 q.2.2.1 q.2.2.2
    | _ => false)
  | _ => false
section AICK
variable {Ts : List Cond} {cl : List vw_C} {P : ai_P} {M : ai_M} {ex : Nat → String} {own : Nat → String} {F : Nat → List (Nat × Nat × Nat × Nat)} {C6 : List (Nat × Nat × Nat × Nat × Nat × Nat)} {Wr : Nat → Nat → Bool}
theorem ai_callB_ok (h : ∀ q ∈ C6, ∃ (y' : MethodName) (cc' : ByteArray) (hh' : List (Nat × Nat × Nat × Nat)) (n : Nat), M q.2.2.2.1 = some (y', cc', hh') ∧ (parseMethodDescriptor y'.desc).map (fun d => d.parameters.length) = some n ∧ ai_iok Ts cl (own q.1) y' n (ai_ci q.2.2.1 q.2.1) [q.2.2.2.1, q.2.2.2.2.1, q.2.2.2.2.2]) {o : Nat} {ins : Instr} {ks : List Nat} (e : ai_callB C6 o ins ks = true) :
    ∃ (y' : MethodName) (cc' : ByteArray) (hh' : List (Nat × Nat × Nat × Nat)) (n : Nat), M (ks.getD 0 0) = some (y', cc', hh') ∧ (parseMethodDescriptor y'.desc).map (fun d => d.parameters.length) = some n ∧ ai_iok Ts cl (own o) y' n ins ks := by
  unfold ai_callB at e
  split at e
  · exact h _ (ai_has6_ok e)
  · exact h _ (ai_has6_ok e)
  · exact h _ (ai_has6_ok e)
  · cases e
theorem ai_extB_ok (o6 : ∀ q ∈ F 14, q.2.2.1 = 0 → Cond.fieldLink (own q.1) q.2.1 "java/util/ArrayList" "DEFAULTCAPACITY_EMPTY_ELEMENTDATA" "[Ljava/lang/Object;" ∈ Ts)
    (o7 : ∀ q ∈ F 14, q.2.2.1 = 1 → Cond.classLink (own q.1) q.2.1 "[Ljava/lang/Object;" ∈ Ts)
    (o8 : ∀ q ∈ F 14, q.2.2.1 = 2 → Cond.methodLink (own q.1) q.2.1 ai_gc ∈ Ts ∧ Cond.declares ai_gc ∈ Ts ∧ Cond.selects "[Ljava/lang/Object;" ai_gc ai_gc ∈ Ts ∧ Cond.instanceMethod ai_gc ∈ Ts ∧ Cond.native ai_gc ∈ Ts)
    (o9 : ∀ q ∈ F 14, q.2.2.1 = 5 → Cond.methodLink (own q.1) q.2.1 arraycopyName ∈ Ts ∧ Cond.native arraycopyName ∈ Ts ∧ Cond.static arraycopyName ∈ Ts ∧ Cond.initialized "java/lang/System" ∈ Ts)
    {o pc len : Nat} {ins : Instr} {ks : List Nat} (e5 : len = if ks.getD 0 0 = 1 then 2 else 3) (e4 : ai_extB (F 14) o pc ins ks = true) : ai_xok Ts (own o) pc len ins ks := by
  unfold ai_extB at e4
  unfold ai_xok
  generalize ks.getD 0 0 = w at e4 e5 ⊢
  split at e4
  · split at e4
    · exact ⟨e5, _, rfl, o6 _ (ai_has_ok e4) rfl⟩
    · cases e4
  · split at e4
    · exact ⟨e5, _, rfl, o7 _ (ai_has_ok e4) rfl⟩
    · cases e4
  · split at e4
    · exact ⟨e5, _, rfl, o8 _ (ai_has_ok e4) rfl⟩
    · cases e4
  · split at e4
    · exact ⟨e5, _, rfl, of_decide_eq_true e4⟩
    · cases e4
  · split at e4
    · exact ⟨e5, _, rfl, of_decide_eq_true e4⟩
    · cases e4
  · split at e4
    · exact ⟨e5, _, rfl, o9 _ (ai_has_ok e4) rfl⟩
    · cases e4
  · split at e4
    · exact ⟨e5, _, rfl, o9 _ (ai_has_ok e4) rfl⟩
    · cases e4
  · cases e4
set_option maxHeartbeats 1000000 in
theorem ai_chk_ok (hF : ai_FH Ts cl P.2.2.2.2.1 P.2.2.2.2.2.1 P.2.2.2.1 own F) (hO : ai_FO Ts cl M ex own F C6) {o : Nat} {ini : Bool} {mi : Nat} {y : MethodName} {cc : ByteArray} {hh : List (Nat × Nat × Nat × Nat)} (hi : ini = true → y.name = "<init>") (ho : own o = y.cls)
    (hW : ∀ pc, Wr mi pc = true → ai_hnd Ts y.cls hh ex (P.2.1 mi pc) pc) {q : Nat × ai_I} (e : ai_chk F C6 Wr o ini mi cc hh q = true) : ai_rok Ts cl P M ex mi y cc hh q.1 q.2 := by
  obtain ⟨o1, o2, o3, o3', o4, o4', o5, o5', o6, o7, o8, o9⟩ := hO
  obtain ⟨pc, kd, ins, ks⟩ := q
  unfold ai_chk at e
  split at e
  · rename_i i2 len hd
    simp only [Bool.and_eq_true] at e
    obtain ⟨e1, e2, e3⟩ := e
    have e1 : i2 = ins := of_decide_eq_true e1
    subst e1
    refine ⟨len, hd, e2, ?_, ?_, ?_, ?_, ?_, ?_, ?_, ?_⟩
    · intro hk
      have hk : kd = 1 := hk
      subst hk
      exact ai_jokB_ok e3
    · intro hk
      have hk : kd = 3 := hk
      subst hk
      rw [← ho]
      exact ai_hokB_ok hF hi e3
    · intro hk
      have hk : kd = 4 := hk
      subst hk
      simp only [Bool.and_eq_true] at e3
      refine ⟨Nat.eq_of_beq_eq_true e3.1, hW _ e3.2.1, ?_⟩
      rw [← ho]
      exact ai_callB_ok o1 e3.2.2
    · intro hk
      have hk : kd = 6 := hk
      subst hk
      simp only [Bool.and_eq_true] at e3
      refine ⟨Nat.eq_of_beq_eq_true e3.1, ?_⟩
      have e4 := e3.2
      unfold ai_thrB at e4
      split at e4
      · rename_i ik
        split at e4
        · rename_i ic hd4
          simp only [Bool.and_eq_true] at e4
          obtain ⟨d3, d7, hh1, hh2⟩ := e4
          obtain ⟨ns, t1, t2⟩ := o2 _ (ai_has_ok hh1)
          rw [← ho]
          refine ⟨ik, ic, ns, rfl, t1, t2, of_decide_eq_true d3, hd4, of_decide_eq_true d7, fun z hz => ?_⟩
          have := List.all_eq_true.mp hh2 z hz
          simpa using this
        · cases e4
      · cases e4
    · intro hk
      have hk : kd = 7 := hk
      subst hk
      simp only [Bool.and_eq_true] at e3
      refine ⟨Nat.eq_of_beq_eq_true e3.1, ?_⟩
      have e4 := e3.2
      rw [← ho]
      unfold ai_oneB at e4
      split at e4
      · rename_i idx
        obtain ⟨a1, a2, a3⟩ := o3 _ (ai_has_ok e4) rfl
        exact ⟨idx, rfl, a1, a2, a3⟩
      · exact absurd (show (2 : Nat) = 1 from o3' _ (ai_has_ok e4)) (by decide)
      · cases e4
    · intro hk
      have hk : kd = 8 := hk
      subst hk
      simp only [Bool.and_eq_true] at e3
      refine ⟨Nat.eq_of_beq_eq_true e3.1, ?_⟩
      have e4 := e3.2
      rw [← ho]
      unfold ai_oneB at e4
      split at e4
      · exact absurd (show (1 : Nat) = 2 from o4' _ (ai_has_ok e4)) (by decide)
      · rename_i idx
        obtain ⟨a1, a2, a3, a4⟩ := o4 _ (ai_has_ok e4) rfl
        exact ⟨idx, rfl, a1, a2, a3, a4⟩
      · cases e4
    · intro hk
      have hk : kd = 9 := hk
      subst hk
      simp only [Bool.and_eq_true] at e3
      refine ⟨Nat.eq_of_beq_eq_true e3.1, ?_⟩
      have e4 := e3.2
      rw [← ho]
      unfold ai_oneB at e4
      split at e4
      · exact absurd (show (1 : Nat) = 2 from o5' _ (ai_has_ok e4)) (by decide)
      · rename_i idx
        obtain ⟨a1, a2, a3, a4⟩ := o5 _ (ai_has_ok e4) rfl
        exact ⟨idx, rfl, a1, a2, a3, a4⟩
      · cases e4
    · intro hk
      have hk : kd = 10 := hk
      subst hk
      simp only [Bool.and_eq_true] at e3
      rw [← ho]
      exact ai_extB_ok o6 o7 o8 o9 (Nat.eq_of_beq_eq_true e3.1) e3.2
  · cases e
/-- a method's table -/
def ai_find2 : List (Nat × ai_I) → Nat → Option ai_I
  | [], _ => none
  | q :: t, pc => match Nat.beq q.1 pc with
    | true => some q.2
    | false => ai_find2 t pc
theorem ai_find2_mem {r : ai_I} {pc : Nat} : ∀ {t : List (Nat × ai_I)}, ai_find2 t pc = some r → (pc, r) ∈ t
  | [], h => by cases h
  | q :: t, h => by
    unfold ai_find2 at h
    split at h
    · rename_i hb
      cases h
      have : q.1 = pc := Nat.eq_of_beq_eq_true hb
      subst this
      exact List.mem_cons_self
    · exact List.mem_cons_of_mem _ (ai_find2_mem h)
theorem ai_rows_ok (hF : ai_FH Ts cl P.2.2.2.2.1 P.2.2.2.2.2.1 P.2.2.2.1 own F) (hO : ai_FO Ts cl M ex own F C6) {o : Nat} {ini : Bool} {mi : Nat} {y : MethodName} {cc : ByteArray} {hh : List (Nat × Nat × Nat × Nat)} (hi : ini = true → y.name = "<init>") (ho : own o = y.cls)
    (hW : ∀ pc, Wr mi pc = true → ai_hnd Ts y.cls hh ex (P.2.1 mi pc) pc) {t : List (Nat × ai_I)} (ht : ∀ pc, P.1 mi pc = ai_find2 t pc) (e : t.all (ai_chk F C6 Wr o ini mi cc hh) = true) : ∀ pc r, P.1 mi pc = some r → ai_rok Ts cl P M ex mi y cc hh pc r := by
  intro pc r hr
  rw [ht] at hr
  have hm := List.all_eq_true.mp e (pc, r) (ai_find2_mem hr)
  exact ai_chk_ok (q := (pc, r)) hF hO hi ho hW hm
/-- all of a list -/
def ai_allQ {α : Type} (Q : Nat → α → Prop) : Nat → List α → Prop
  | _, [] => True
  | k, x :: r => Q k x ∧ ai_allQ Q (k + 1) r
theorem ai_allQ_at {α : Type} {Q : Nat → α → Prop} : ∀ {l : List α} {k i : Nat} {v : α}, ai_allQ Q k l → l[i]? = some v → Q (k + i) v
  | [], _, _, _, _, h => by simp at h
  | x :: r, k, 0, v, h, e => by
    simp only [List.getElem?_cons_zero, Option.some.injEq] at e
    rw [← e]
    exact h.1
  | x :: r, k, i + 1, v, h, e => by
    simp only [List.getElem?_cons_succ] at e
    have := ai_allQ_at h.2 e
    rw [show k + (i + 1) = k + 1 + i by omega]
    exact this
end AICK
