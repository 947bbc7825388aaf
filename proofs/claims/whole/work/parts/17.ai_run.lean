/-! The run of a method. -/
/-- the program: its rows; the handlers (method, counter, class thrown); a method's locals and answer; the classes' first fields; the arrays' types; the fields' types; what an array of references takes -/
abbrev ai_P : Type := (Nat → Nat → Option ai_I) × (Nat → Nat → Nat → Option (Option Nat)) × (Nat → Nat × Option FieldType) × (Nat → List ai_V) × List FieldType × (Nat → Nat → FieldType) × (Nat → Nat → Bool)
def ai_ent : List ai_V → ai_L
  | [] => []
  | v :: vs => if ai_two v = true then some v :: none :: ai_ent vs else some v :: ai_ent vs
/-- an answer -/
def ai_ret (ins : Instr) (ret : Option FieldType) (st : List ai_V) : Option (Option ai_V) := match ins with
  | .return_ => match ret, st with
    | none, [] => some none
    | _, _ => none
  | .ireturn => match ret, st with
    | some ty, [.inl x] => if ai_fit ty (.inl x) = true then some (some (.inl x)) else none
    | _, _ => none
  | .areturn => match ret, st with
    | some (.object _), [.inr (.inr r)] => some (some (.inr (.inr r)))
    | some (.array _), [.inr (.inr r)] => some (some (.inr (.inr r)))
    | _, _ => none
  | _ => none
/-- a call's arguments and what stays on the stack -/
def ai_args (ins : Instr) (ks : List Nat) (st : List ai_V) (h : ai_H) : Option (List ai_V × List ai_V) :=
  if ks.getD 1 0 ≤ st.length ∧ ai_wt (st.drop (ks.getD 1 0)) ≤ 8 then
    match ins with
    | .invokestatic _ => some ((st.take (ks.getD 1 0)).reverse, st.drop (ks.getD 1 0))
    | .invokespecial _ => match (st.take (ks.getD 1 0)).reverse with
      | .inr (.inr (some a)) :: vs => some (.inr (.inr (some a)) :: vs, st.drop (ks.getD 1 0))
      | _ => none
    | .invokevirtual _ => match (st.take (ks.getD 1 0)).reverse with
      | .inr (.inr (some a)) :: vs => match h.1 a with
        | some (.inl (cj, _)) => if cj = ks.getD 2 0 then some (.inr (.inr (some a)) :: vs, st.drop (ks.getD 1 0)) else none
        | _ => none
      | _ => none
    | _ => none
  else none
/-- an exception that was caught: a thing of number 1 -/
def ai_exc (h : ai_H) : ai_H := (ai_upd h.1 (1, h.2.1 1) (.inr (.inr 1)), (fun j => if j = 1 then h.2.1 1 + 1 else h.2.1 j), h.2.2.1, h.2.2.2)
noncomputable def ai_run (P : ai_P) (L : Nat) (xs : Nat → Int32) (call : Nat → List ai_V → ai_H → Option (ai_O × ai_H)) (mi : Nat) : Nat → Nat → ai_L → List ai_V → ai_H → Option (ai_O × ai_H)
  | 0, _, _, _, _ => none
  | n + 1, pc, ls, st, h => match P.1 mi pc with
    | none => none
    | some (kd, ins, ks) => match kd with
      | 0 => match ai_pure ins st with
        | some st' => ai_run P L xs call mi n (pc + ai_len ins) ls st' h
        | none => none
      | 1 => match ai_jmp ins pc ks st with
        | some (pc', st') => ai_run P L xs call mi n pc' ls st' h
        | none => none
      | 2 => match ai_loc ins ls st with
        | some (ls', st') => ai_run P L xs call mi n (pc + ai_len ins) ls' st' h
        | none => none
      | 3 => match ai_heap P.2.2.2.1 (fun t => P.2.2.2.2.1.getD t .float) P.2.2.2.2.2.1 P.2.2.2.2.2.2 L xs ins ks st h with
        | some (st', h') => ai_run P L xs call mi n (pc + ai_len ins) ls st' h'
        | none => none
      | 4 => match ai_args ins ks st h with
        | some (av, r) => match call (ks.getD 0 0) av h with
          | some (.inl v, h') => ai_run P L xs call mi n (pc + 3) ls (v.toList ++ r) h'
          | some (.inr x, h') => match P.2.1 mi pc x with
            | some (some pc') => if (h'.1 (1, h'.2.1 1)).isNone = true then ai_run P L xs call mi n pc' ls [.inr (.inr (some (1, h'.2.1 1)))] (ai_exc h') else none
            | some none => some (.inr x, h')
            | none => none
          | none => none
        | none => none
      | 5 => match ai_ret ins (P.2.2.1 mi).2 st with
        | some v => some (.inl v, h)
        | none => none
      | 6 => if ai_wt st ≤ 8 then some (.inr (ks.getD 0 0), (h.1, h.2.1, h.2.2.1 + 1, h.2.2.2 + 6)) else none
      | 7 => match st with
        | .inr (.inr (some _)) :: r => if ai_wt r ≤ 8 then ai_run P L xs call mi n (pc + 3) ls r h else none
        | _ => none
      | 8 => match st with
        | .inl y :: .inl x :: r => if ai_wt r ≤ 8 then ai_run P L xs call mi n (pc + 3) ls (.inl (if x < y then y else x) :: r) h else none
        | _ => none
      | 9 => match st with
        | .inl y :: .inl x :: r => if ai_wt r ≤ 8 then ai_run P L xs call mi n (pc + 3) ls (.inl (if y < x then y else x) :: r) h else none
        | _ => none
      | 10 => match ai_ext (fun t => P.2.2.2.2.1.getD t .float) P.2.2.2.2.2.2 pc ks st h with
        | some (pc', st', h') => ai_run P L xs call mi n pc' ls st' h'
        | none => none
      | _ => none
noncomputable def ai_call (P : ai_P) (L : Nat) (xs : Nat → Int32) (N : Nat) : Nat → Nat → List ai_V → ai_H → Option (ai_O × ai_H)
  | 0, _, _, _ => none
  | d + 1, mi, av, h => if (ai_ent av).length ≤ (P.2.2.1 mi).1 then ai_run P L xs (ai_call P L xs N d) mi N 0 (ai_ent av ++ List.replicate ((P.2.2.1 mi).1 - (ai_ent av).length) none) [] h else none
/-- words that stay true: of the tables alone -/
def ai_good : Cond → Bool
  | .arrayClass _ => true
  | .arrayOver (.object _) => true
  | .fieldLinkNest _ _ _ _ _ _ => true
  | .methodLinkNest _ _ _ _ => true
  | .not (.castable _ _) => true
  | w => w.onTables && w.keepsFace
theorem ai_word {args a' : Array Value} {s U : State} {w : Cond} (hW : s.WarmedH U.vm) (hg : ai_good w = true) (h : w.before args s = true) : w.before a' U = true := by
  have gen : w.onTables = true → w.keepsFace = true → w.before a' U = true := fun h1 h2 =>
    va_tabs h1 (rfl : (s.setVm U.vm).vm = U.vm) (Cond.before_shiftedFace (State.Shifted.of_warmed hW) w h2 h)
  unfold ai_good at hg
  split at hg
  · exact word_at hW (Or.inr ⟨_, rfl⟩) h
  · exact va_AO.use (va_AO.moved hW.alike (va_AO.of h))
  · exact va_Nw.use rfl (va_Nw.warmF hW (va_Nw.of rfl h))
  · exact va_Nw.use rfl (va_Nw.warmM hW (va_Nw.of rfl h))
  · rename_i a b
    have h1 : (Cond.not (.castable a b)).before args (s.setVm U.vm) = true := Cond.castAtom_setVm hW.alike _ rfl h
    exact h1
  · simp only [Bool.and_eq_true] at hg
    exact gen hg.1 hg.2
theorem ai_heap_mono {dfl : Nat → List ai_V} {tyA : Nat → FieldType} {tyF : Nat → Nat → FieldType} {asg : Nat → Nat → Bool} {L : Nat} {xs : Nat → Int32} {ins : Instr} {ks : List Nat} {st st' : List ai_V} {h h' : ai_H} (hp : ai_heap dfl tyA tyF asg L xs ins ks st h = some (st', h')) : h.2.2.1 ≤ h'.2.2.1 ∧ h.2.2.2 ≤ h'.2.2.2 := by
  have same : h' = h → h.2.2.1 ≤ h'.2.2.1 ∧ h.2.2.2 ≤ h'.2.2.2 := fun z => by rw [z]; exact ⟨Nat.le_refl _, Nat.le_refl _⟩
  have put : ∀ a x, h' = ai_put h a x → h.2.2.1 ≤ h'.2.2.1 ∧ h.2.2.2 ≤ h'.2.2.2 := fun a x z => by rw [z]; exact ⟨Nat.le_refl _, Nat.le_refl _⟩
  have new : ∀ s x n, h' = ai_new h s x n → h.2.2.1 ≤ h'.2.2.1 ∧ h.2.2.2 ≤ h'.2.2.2 := fun s x n z => by rw [z]; exact ⟨Nat.le_succ _, Nat.le_add_right _ _⟩
  unfold ai_heap at hp
  repeat' split at hp
  all_goals first
    | (cases hp; done)
    | (cases hp; exact same rfl)
    | (cases hp; exact put _ _ rfl)
    | (cases hp; exact new _ _ _ rfl)
    | (obtain ⟨v, hv, hz⟩ := Option.map_eq_some_iff.mp hp; cases hz; exact same rfl)
theorem ai_ext_mono {tyA : Nat → FieldType} {asg : Nat → Nat → Bool} {pc pc' : Nat} {ks : List Nat} {st st' : List ai_V} {h h' : ai_H} (hp : ai_ext tyA asg pc ks st h = some (pc', st', h')) : h.2.2.1 ≤ h'.2.2.1 ∧ h.2.2.2 ≤ h'.2.2.2 := by
  have same : h' = h → h.2.2.1 ≤ h'.2.2.1 ∧ h.2.2.2 ≤ h'.2.2.2 := fun z => by rw [z]; exact ⟨Nat.le_refl _, Nat.le_refl _⟩
  have put : ∀ a x, h' = ai_put h a x → h.2.2.1 ≤ h'.2.2.1 ∧ h.2.2.2 ≤ h'.2.2.2 := fun a x z => by rw [z]; exact ⟨Nat.le_refl _, Nat.le_refl _⟩
  unfold ai_ext at hp
  repeat' split at hp
  all_goals first
    | (cases hp; done)
    | (cases hp; exact same rfl)
    | (cases hp; exact put _ _ rfl)
theorem ai_run_mono {P : ai_P} {L : Nat} {xs : Nat → Int32} {call : Nat → List ai_V → ai_H → Option (ai_O × ai_H)} (hcall : ∀ mi av h o h', call mi av h = some (o, h') → h.2.2.1 ≤ h'.2.2.1 ∧ h.2.2.2 ≤ h'.2.2.2) {mi : Nat} :
    ∀ n pc ls st h o h', ai_run P L xs call mi n pc ls st h = some (o, h') → h.2.2.1 ≤ h'.2.2.1 ∧ h.2.2.2 ≤ h'.2.2.2 := by
  intro n
  induction n with
  | zero => intro pc ls st h o h' hr; cases hr
  | succ n ih =>
    intro pc ls st h o h' hr
    unfold ai_run at hr
    split at hr
    · cases hr
    · split at hr
      · split at hr
        · exact ih _ _ _ _ _ _ hr
        · cases hr
      · split at hr
        · exact ih _ _ _ _ _ _ hr
        · cases hr
      · split at hr
        · exact ih _ _ _ _ _ _ hr
        · cases hr
      · split at hr
        · rename_i hh
          have h1 := ai_heap_mono hh
          have h2 := ih _ _ _ _ _ _ hr
          omega
        · cases hr
      · split at hr
        · split at hr
          · rename_i hh
            have h1 := hcall _ _ _ _ _ hh
            have h2 := ih _ _ _ _ _ _ hr
            omega
          · rename_i hh
            have h1 := hcall _ _ _ _ _ hh
            split at hr
            · split at hr
              · have h2 := ih _ _ _ _ _ _ hr
                simp only [ai_exc] at h2
                omega
              · cases hr
            · cases hr
              exact h1
            · cases hr
          · cases hr
        · cases hr
      · split at hr
        · cases hr
          exact ⟨Nat.le_refl _, Nat.le_refl _⟩
        · cases hr
      · split at hr
        · cases hr
          exact ⟨Nat.le_succ _, Nat.le_add_right _ _⟩
        · cases hr
      · split at hr
        · split at hr
          · exact ih _ _ _ _ _ _ hr
          · cases hr
        · cases hr
      · split at hr
        · split at hr
          · exact ih _ _ _ _ _ _ hr
          · cases hr
        · cases hr
      · split at hr
        · split at hr
          · exact ih _ _ _ _ _ _ hr
          · cases hr
        · cases hr
      · split at hr
        · rename_i hh
          have h1 := ai_ext_mono hh
          have h2 := ih _ _ _ _ _ _ hr
          omega
        · cases hr
      · cases hr
theorem ai_call_mono {P : ai_P} {L : Nat} {xs : Nat → Int32} {N : Nat} : ∀ d mi av h o h', ai_call P L xs N d mi av h = some (o, h') → h.2.2.1 ≤ h'.2.2.1 ∧ h.2.2.2 ≤ h'.2.2.2 := by
  intro d
  induction d with
  | zero => intro mi av h o h' hr; cases hr
  | succ d ih =>
    intro mi av h o h' hr
    unfold ai_call at hr
    split at hr
    · exact ai_run_mono ih _ _ _ _ _ _ _ hr
    · cases hr
